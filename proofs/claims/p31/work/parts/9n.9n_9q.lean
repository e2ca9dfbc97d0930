/-! part 9n.law1 -/
section
set_option maxRecDepth 100000 in
theorem db_cL_law_dL_law_0_0 : zw [(0, .new 8, 3), (3, .dup, 1), (4, .invokespecial 115, 3), (7, .astore_n 1, 1), (8, .new 116, 3), (11, .dup, 1), (12, .invokespecial 118, 3), (15, .astore_n 2, 1), (16, .new 14, 3), (19, .dup, 1), (20, .invokespecial 119, 3), (23, .astore_n 3, 1), (24, .iconst 0, 1), (25, .istore 4, 2), (27, .iload 4, 2), (29, .aload_n 0, 1)] (cL_law.data.toList.drop 0) 0 = true := by decide +kernel
def dc_cL_law_dL_law_0_0 := zw_16 db_cL_law_dL_law_0_0
def dL_law_0 := dc_cL_law_dL_law_0_0.1
def dL_law_3 := dc_cL_law_dL_law_0_0.2.1
def dL_law_4 := dc_cL_law_dL_law_0_0.2.2.1
def dL_law_7 := dc_cL_law_dL_law_0_0.2.2.2.1
def dL_law_8 := dc_cL_law_dL_law_0_0.2.2.2.2.1
def dL_law_11 := dc_cL_law_dL_law_0_0.2.2.2.2.2.1
def dL_law_12 := dc_cL_law_dL_law_0_0.2.2.2.2.2.2.1
def dL_law_15 := dc_cL_law_dL_law_0_0.2.2.2.2.2.2.2.1
def dL_law_16 := dc_cL_law_dL_law_0_0.2.2.2.2.2.2.2.2.1
def dL_law_19 := dc_cL_law_dL_law_0_0.2.2.2.2.2.2.2.2.2.1
def dL_law_20 := dc_cL_law_dL_law_0_0.2.2.2.2.2.2.2.2.2.2.1
def dL_law_23 := dc_cL_law_dL_law_0_0.2.2.2.2.2.2.2.2.2.2.2.1
def dL_law_24 := dc_cL_law_dL_law_0_0.2.2.2.2.2.2.2.2.2.2.2.2.1
def dL_law_25 := dc_cL_law_dL_law_0_0.2.2.2.2.2.2.2.2.2.2.2.2.2.1
def dL_law_27 := dc_cL_law_dL_law_0_0.2.2.2.2.2.2.2.2.2.2.2.2.2.2.1
def dL_law_29 := dc_cL_law_dL_law_0_0.2.2.2.2.2.2.2.2.2.2.2.2.2.2.2
set_option maxRecDepth 100000 in
theorem db_cL_law_dL_law_30_1 : zw [(30, .arraylength, 1), (31, .bipush 6, 2), (33, .isub, 1), (34, .if_icmp .gt 1516, 3), (37, .aload_n 0, 1), (38, .iload 4, 2), (40, .iaload, 1), (41, .bipush 31, 2), (43, .iand, 1)] (cL_law.data.toList.drop 30) 30 = true := by decide +kernel
def dc_cL_law_dL_law_30_1 := zw_9 db_cL_law_dL_law_30_1
def dL_law_30 := dc_cL_law_dL_law_30_1.1
def dL_law_31 := dc_cL_law_dL_law_30_1.2.1
def dL_law_33 := dc_cL_law_dL_law_30_1.2.2.1
def dL_law_34 := dc_cL_law_dL_law_30_1.2.2.2.1
def dL_law_37 := dc_cL_law_dL_law_30_1.2.2.2.2.1
def dL_law_38 := dc_cL_law_dL_law_30_1.2.2.2.2.2.1
def dL_law_40 := dc_cL_law_dL_law_30_1.2.2.2.2.2.2.1
def dL_law_41 := dc_cL_law_dL_law_30_1.2.2.2.2.2.2.2.1
def dL_law_43 := dc_cL_law_dL_law_30_1.2.2.2.2.2.2.2.2
theorem dL_law_44 : decode cL_law 44 = .ok (.tableswitch 1500 0 29 #[136, 176, 268, 332, 428, 492, 532, 572, 600, 628, 656, 696, 764, 828, 868, 920, 972, 1036, 1076, 1116, 1144, 1196, 1236, 1288, 1328, 1368, 1432, 1460, 1473, 1486], 136) := by decide +kernel
set_option maxRecDepth 100000 in
theorem db_cL_law_dL_law_180_2 : zw [(180, .aload_n 1, 1), (181, .aload_n 0, 1), (182, .iload 4, 2), (184, .iconst 1, 1), (185, .iadd, 1), (186, .iaload, 1), (187, .aload_n 0, 1), (188, .iload 4, 2), (190, .iconst 2, 1), (191, .iadd, 1), (192, .iaload, 1), (193, .aload_n 3, 1), (194, .invokestatic 120, 3), (197, .istore 5, 2), (199, .aload_n 2, 1), (200, .aload_n 0, 1)] (cL_law.data.toList.drop 180) 180 = true := by decide +kernel
def dc_cL_law_dL_law_180_2 := zw_16 db_cL_law_dL_law_180_2
def dL_law_180 := dc_cL_law_dL_law_180_2.1
def dL_law_181 := dc_cL_law_dL_law_180_2.2.1
def dL_law_182 := dc_cL_law_dL_law_180_2.2.2.1
def dL_law_184 := dc_cL_law_dL_law_180_2.2.2.2.1
def dL_law_185 := dc_cL_law_dL_law_180_2.2.2.2.2.1
def dL_law_186 := dc_cL_law_dL_law_180_2.2.2.2.2.2.1
def dL_law_187 := dc_cL_law_dL_law_180_2.2.2.2.2.2.2.1
def dL_law_188 := dc_cL_law_dL_law_180_2.2.2.2.2.2.2.2.1
def dL_law_190 := dc_cL_law_dL_law_180_2.2.2.2.2.2.2.2.2.1
def dL_law_191 := dc_cL_law_dL_law_180_2.2.2.2.2.2.2.2.2.2.1
def dL_law_192 := dc_cL_law_dL_law_180_2.2.2.2.2.2.2.2.2.2.2.1
def dL_law_193 := dc_cL_law_dL_law_180_2.2.2.2.2.2.2.2.2.2.2.2.1
def dL_law_194 := dc_cL_law_dL_law_180_2.2.2.2.2.2.2.2.2.2.2.2.2.1
def dL_law_197 := dc_cL_law_dL_law_180_2.2.2.2.2.2.2.2.2.2.2.2.2.2.1
def dL_law_199 := dc_cL_law_dL_law_180_2.2.2.2.2.2.2.2.2.2.2.2.2.2.2.1
def dL_law_200 := dc_cL_law_dL_law_180_2.2.2.2.2.2.2.2.2.2.2.2.2.2.2.2
set_option maxRecDepth 100000 in
theorem db_cL_law_dL_law_201_3 : zw [(201, .iload 4, 2), (203, .iconst 1, 1), (204, .iadd, 1), (205, .iaload, 1), (206, .aload_n 0, 1), (207, .iload 4, 2), (209, .iconst 2, 1), (210, .iadd, 1), (211, .iaload, 1), (212, .invokevirtual 125, 3), (215, .istore 6, 2), (217, .goto 1327, 3), (220, .aload_n 1, 1), (221, .aload_n 0, 1), (222, .iload 4, 2), (224, .iconst 1, 1)] (cL_law.data.toList.drop 201) 201 = true := by decide +kernel
def dc_cL_law_dL_law_201_3 := zw_16 db_cL_law_dL_law_201_3
def dL_law_201 := dc_cL_law_dL_law_201_3.1
def dL_law_203 := dc_cL_law_dL_law_201_3.2.1
def dL_law_204 := dc_cL_law_dL_law_201_3.2.2.1
def dL_law_205 := dc_cL_law_dL_law_201_3.2.2.2.1
def dL_law_206 := dc_cL_law_dL_law_201_3.2.2.2.2.1
def dL_law_207 := dc_cL_law_dL_law_201_3.2.2.2.2.2.1
def dL_law_209 := dc_cL_law_dL_law_201_3.2.2.2.2.2.2.1
def dL_law_210 := dc_cL_law_dL_law_201_3.2.2.2.2.2.2.2.1
def dL_law_211 := dc_cL_law_dL_law_201_3.2.2.2.2.2.2.2.2.1
def dL_law_212 := dc_cL_law_dL_law_201_3.2.2.2.2.2.2.2.2.2.1
def dL_law_215 := dc_cL_law_dL_law_201_3.2.2.2.2.2.2.2.2.2.2.1
def dL_law_217 := dc_cL_law_dL_law_201_3.2.2.2.2.2.2.2.2.2.2.2.1
def dL_law_220 := dc_cL_law_dL_law_201_3.2.2.2.2.2.2.2.2.2.2.2.2.1
def dL_law_221 := dc_cL_law_dL_law_201_3.2.2.2.2.2.2.2.2.2.2.2.2.2.1
def dL_law_222 := dc_cL_law_dL_law_201_3.2.2.2.2.2.2.2.2.2.2.2.2.2.2.1
def dL_law_224 := dc_cL_law_dL_law_201_3.2.2.2.2.2.2.2.2.2.2.2.2.2.2.2
set_option maxRecDepth 100000 in
theorem db_cL_law_dL_law_225_4 : zw [(225, .iadd, 1), (226, .iaload, 1), (227, .aload_n 0, 1), (228, .iload 4, 2), (230, .iconst 2, 1), (231, .iadd, 1), (232, .iaload, 1), (233, .aload_n 0, 1), (234, .iload 4, 2), (236, .iconst 3, 1), (237, .iadd, 1), (238, .iaload, 1), (239, .aload_n 0, 1), (240, .iload 4, 2), (242, .iconst 4, 1), (243, .iadd, 1)] (cL_law.data.toList.drop 225) 225 = true := by decide +kernel
def dc_cL_law_dL_law_225_4 := zw_16 db_cL_law_dL_law_225_4
def dL_law_225 := dc_cL_law_dL_law_225_4.1
def dL_law_226 := dc_cL_law_dL_law_225_4.2.1
def dL_law_227 := dc_cL_law_dL_law_225_4.2.2.1
def dL_law_228 := dc_cL_law_dL_law_225_4.2.2.2.1
def dL_law_230 := dc_cL_law_dL_law_225_4.2.2.2.2.1
def dL_law_231 := dc_cL_law_dL_law_225_4.2.2.2.2.2.1
def dL_law_232 := dc_cL_law_dL_law_225_4.2.2.2.2.2.2.1
def dL_law_233 := dc_cL_law_dL_law_225_4.2.2.2.2.2.2.2.1
def dL_law_234 := dc_cL_law_dL_law_225_4.2.2.2.2.2.2.2.2.1
def dL_law_236 := dc_cL_law_dL_law_225_4.2.2.2.2.2.2.2.2.2.1
def dL_law_237 := dc_cL_law_dL_law_225_4.2.2.2.2.2.2.2.2.2.2.1
def dL_law_238 := dc_cL_law_dL_law_225_4.2.2.2.2.2.2.2.2.2.2.2.1
def dL_law_239 := dc_cL_law_dL_law_225_4.2.2.2.2.2.2.2.2.2.2.2.2.1
def dL_law_240 := dc_cL_law_dL_law_225_4.2.2.2.2.2.2.2.2.2.2.2.2.2.1
def dL_law_242 := dc_cL_law_dL_law_225_4.2.2.2.2.2.2.2.2.2.2.2.2.2.2.1
def dL_law_243 := dc_cL_law_dL_law_225_4.2.2.2.2.2.2.2.2.2.2.2.2.2.2.2
set_option maxRecDepth 100000 in
theorem db_cL_law_dL_law_244_5 : zw [(244, .iaload, 1), (245, .aload_n 0, 1), (246, .iload 4, 2), (248, .iconst 5, 1), (249, .iadd, 1), (250, .iaload, 1), (251, .ifCond .eq 7, 3), (254, .iconst 1, 1), (255, .goto 4, 3), (258, .iconst 0, 1), (259, .aload_n 3, 1), (260, .invokestatic 126, 3), (263, .istore 5, 2), (265, .aload_n 2, 1), (266, .aload_n 0, 1), (267, .iload 4, 2)] (cL_law.data.toList.drop 244) 244 = true := by decide +kernel
def dc_cL_law_dL_law_244_5 := zw_16 db_cL_law_dL_law_244_5
def dL_law_244 := dc_cL_law_dL_law_244_5.1
def dL_law_245 := dc_cL_law_dL_law_244_5.2.1
def dL_law_246 := dc_cL_law_dL_law_244_5.2.2.1
def dL_law_248 := dc_cL_law_dL_law_244_5.2.2.2.1
def dL_law_249 := dc_cL_law_dL_law_244_5.2.2.2.2.1
def dL_law_250 := dc_cL_law_dL_law_244_5.2.2.2.2.2.1
def dL_law_251 := dc_cL_law_dL_law_244_5.2.2.2.2.2.2.1
def dL_law_254 := dc_cL_law_dL_law_244_5.2.2.2.2.2.2.2.1
def dL_law_255 := dc_cL_law_dL_law_244_5.2.2.2.2.2.2.2.2.1
def dL_law_258 := dc_cL_law_dL_law_244_5.2.2.2.2.2.2.2.2.2.1
def dL_law_259 := dc_cL_law_dL_law_244_5.2.2.2.2.2.2.2.2.2.2.1
def dL_law_260 := dc_cL_law_dL_law_244_5.2.2.2.2.2.2.2.2.2.2.2.1
def dL_law_263 := dc_cL_law_dL_law_244_5.2.2.2.2.2.2.2.2.2.2.2.2.1
def dL_law_265 := dc_cL_law_dL_law_244_5.2.2.2.2.2.2.2.2.2.2.2.2.2.1
def dL_law_266 := dc_cL_law_dL_law_244_5.2.2.2.2.2.2.2.2.2.2.2.2.2.2.1
def dL_law_267 := dc_cL_law_dL_law_244_5.2.2.2.2.2.2.2.2.2.2.2.2.2.2.2
set_option maxRecDepth 100000 in
theorem db_cL_law_dL_law_269_6 : zw [(269, .iconst 1, 1), (270, .iadd, 1), (271, .iaload, 1), (272, .aload_n 0, 1), (273, .iload 4, 2), (275, .iconst 2, 1), (276, .iadd, 1), (277, .iaload, 1), (278, .aload_n 0, 1), (279, .iload 4, 2), (281, .iconst 3, 1), (282, .iadd, 1), (283, .iaload, 1), (284, .aload_n 0, 1), (285, .iload 4, 2), (287, .iconst 4, 1)] (cL_law.data.toList.drop 269) 269 = true := by decide +kernel
def dc_cL_law_dL_law_269_6 := zw_16 db_cL_law_dL_law_269_6
def dL_law_269 := dc_cL_law_dL_law_269_6.1
def dL_law_270 := dc_cL_law_dL_law_269_6.2.1
def dL_law_271 := dc_cL_law_dL_law_269_6.2.2.1
def dL_law_272 := dc_cL_law_dL_law_269_6.2.2.2.1
def dL_law_273 := dc_cL_law_dL_law_269_6.2.2.2.2.1
def dL_law_275 := dc_cL_law_dL_law_269_6.2.2.2.2.2.1
def dL_law_276 := dc_cL_law_dL_law_269_6.2.2.2.2.2.2.1
def dL_law_277 := dc_cL_law_dL_law_269_6.2.2.2.2.2.2.2.1
def dL_law_278 := dc_cL_law_dL_law_269_6.2.2.2.2.2.2.2.2.1
def dL_law_279 := dc_cL_law_dL_law_269_6.2.2.2.2.2.2.2.2.2.1
def dL_law_281 := dc_cL_law_dL_law_269_6.2.2.2.2.2.2.2.2.2.2.1
def dL_law_282 := dc_cL_law_dL_law_269_6.2.2.2.2.2.2.2.2.2.2.2.1
def dL_law_283 := dc_cL_law_dL_law_269_6.2.2.2.2.2.2.2.2.2.2.2.2.1
def dL_law_284 := dc_cL_law_dL_law_269_6.2.2.2.2.2.2.2.2.2.2.2.2.2.1
def dL_law_285 := dc_cL_law_dL_law_269_6.2.2.2.2.2.2.2.2.2.2.2.2.2.2.1
def dL_law_287 := dc_cL_law_dL_law_269_6.2.2.2.2.2.2.2.2.2.2.2.2.2.2.2
set_option maxRecDepth 100000 in
theorem db_cL_law_dL_law_288_7 : zw [(288, .iadd, 1), (289, .iaload, 1), (290, .aload_n 0, 1), (291, .iload 4, 2), (293, .iconst 5, 1), (294, .iadd, 1), (295, .iaload, 1), (296, .ifCond .eq 7, 3), (299, .iconst 1, 1), (300, .goto 4, 3), (303, .iconst 0, 1), (304, .invokevirtual 129, 3), (307, .istore 6, 2), (309, .goto 1235, 3), (312, .aload_n 1, 1), (313, .aload_n 0, 1)] (cL_law.data.toList.drop 288) 288 = true := by decide +kernel
def dc_cL_law_dL_law_288_7 := zw_16 db_cL_law_dL_law_288_7
def dL_law_288 := dc_cL_law_dL_law_288_7.1
def dL_law_289 := dc_cL_law_dL_law_288_7.2.1
def dL_law_290 := dc_cL_law_dL_law_288_7.2.2.1
def dL_law_291 := dc_cL_law_dL_law_288_7.2.2.2.1
def dL_law_293 := dc_cL_law_dL_law_288_7.2.2.2.2.1
def dL_law_294 := dc_cL_law_dL_law_288_7.2.2.2.2.2.1
def dL_law_295 := dc_cL_law_dL_law_288_7.2.2.2.2.2.2.1
def dL_law_296 := dc_cL_law_dL_law_288_7.2.2.2.2.2.2.2.1
def dL_law_299 := dc_cL_law_dL_law_288_7.2.2.2.2.2.2.2.2.1
def dL_law_300 := dc_cL_law_dL_law_288_7.2.2.2.2.2.2.2.2.2.1
def dL_law_303 := dc_cL_law_dL_law_288_7.2.2.2.2.2.2.2.2.2.2.1
def dL_law_304 := dc_cL_law_dL_law_288_7.2.2.2.2.2.2.2.2.2.2.2.1
def dL_law_307 := dc_cL_law_dL_law_288_7.2.2.2.2.2.2.2.2.2.2.2.2.1
def dL_law_309 := dc_cL_law_dL_law_288_7.2.2.2.2.2.2.2.2.2.2.2.2.2.1
def dL_law_312 := dc_cL_law_dL_law_288_7.2.2.2.2.2.2.2.2.2.2.2.2.2.2.1
def dL_law_313 := dc_cL_law_dL_law_288_7.2.2.2.2.2.2.2.2.2.2.2.2.2.2.2
set_option maxRecDepth 100000 in
theorem db_cL_law_dL_law_314_8 : zw [(314, .iload 4, 2), (316, .iconst 1, 1), (317, .iadd, 1), (318, .iaload, 1), (319, .aload_n 0, 1), (320, .iload 4, 2), (322, .iconst 2, 1), (323, .iadd, 1), (324, .iaload, 1), (325, .aload_n 0, 1), (326, .iload 4, 2), (328, .iconst 3, 1), (329, .iadd, 1), (330, .iaload, 1), (331, .aload_n 0, 1), (332, .iload 4, 2)] (cL_law.data.toList.drop 314) 314 = true := by decide +kernel
def dc_cL_law_dL_law_314_8 := zw_16 db_cL_law_dL_law_314_8
def dL_law_314 := dc_cL_law_dL_law_314_8.1
def dL_law_316 := dc_cL_law_dL_law_314_8.2.1
def dL_law_317 := dc_cL_law_dL_law_314_8.2.2.1
def dL_law_318 := dc_cL_law_dL_law_314_8.2.2.2.1
def dL_law_319 := dc_cL_law_dL_law_314_8.2.2.2.2.1
def dL_law_320 := dc_cL_law_dL_law_314_8.2.2.2.2.2.1
def dL_law_322 := dc_cL_law_dL_law_314_8.2.2.2.2.2.2.1
def dL_law_323 := dc_cL_law_dL_law_314_8.2.2.2.2.2.2.2.1
def dL_law_324 := dc_cL_law_dL_law_314_8.2.2.2.2.2.2.2.2.1
def dL_law_325 := dc_cL_law_dL_law_314_8.2.2.2.2.2.2.2.2.2.1
def dL_law_326 := dc_cL_law_dL_law_314_8.2.2.2.2.2.2.2.2.2.2.1
def dL_law_328 := dc_cL_law_dL_law_314_8.2.2.2.2.2.2.2.2.2.2.2.1
def dL_law_329 := dc_cL_law_dL_law_314_8.2.2.2.2.2.2.2.2.2.2.2.2.1
def dL_law_330 := dc_cL_law_dL_law_314_8.2.2.2.2.2.2.2.2.2.2.2.2.2.1
def dL_law_331 := dc_cL_law_dL_law_314_8.2.2.2.2.2.2.2.2.2.2.2.2.2.2.1
def dL_law_332 := dc_cL_law_dL_law_314_8.2.2.2.2.2.2.2.2.2.2.2.2.2.2.2
set_option maxRecDepth 100000 in
theorem db_cL_law_dL_law_334_9 : zw [(334, .iconst 4, 1), (335, .iadd, 1), (336, .iaload, 1), (337, .aload_n 3, 1), (338, .invokestatic 130, 3), (341, .istore 5, 2), (343, .aload_n 2, 1), (344, .aload_n 0, 1), (345, .iload 4, 2), (347, .iconst 1, 1), (348, .iadd, 1), (349, .iaload, 1), (350, .aload_n 0, 1), (351, .iload 4, 2), (353, .iconst 2, 1), (354, .iadd, 1)] (cL_law.data.toList.drop 334) 334 = true := by decide +kernel
def dc_cL_law_dL_law_334_9 := zw_16 db_cL_law_dL_law_334_9
def dL_law_334 := dc_cL_law_dL_law_334_9.1
def dL_law_335 := dc_cL_law_dL_law_334_9.2.1
def dL_law_336 := dc_cL_law_dL_law_334_9.2.2.1
def dL_law_337 := dc_cL_law_dL_law_334_9.2.2.2.1
def dL_law_338 := dc_cL_law_dL_law_334_9.2.2.2.2.1
def dL_law_341 := dc_cL_law_dL_law_334_9.2.2.2.2.2.1
def dL_law_343 := dc_cL_law_dL_law_334_9.2.2.2.2.2.2.1
def dL_law_344 := dc_cL_law_dL_law_334_9.2.2.2.2.2.2.2.1
def dL_law_345 := dc_cL_law_dL_law_334_9.2.2.2.2.2.2.2.2.1
def dL_law_347 := dc_cL_law_dL_law_334_9.2.2.2.2.2.2.2.2.2.1
def dL_law_348 := dc_cL_law_dL_law_334_9.2.2.2.2.2.2.2.2.2.2.1
def dL_law_349 := dc_cL_law_dL_law_334_9.2.2.2.2.2.2.2.2.2.2.2.1
def dL_law_350 := dc_cL_law_dL_law_334_9.2.2.2.2.2.2.2.2.2.2.2.2.1
def dL_law_351 := dc_cL_law_dL_law_334_9.2.2.2.2.2.2.2.2.2.2.2.2.2.1
def dL_law_353 := dc_cL_law_dL_law_334_9.2.2.2.2.2.2.2.2.2.2.2.2.2.2.1
def dL_law_354 := dc_cL_law_dL_law_334_9.2.2.2.2.2.2.2.2.2.2.2.2.2.2.2
set_option maxRecDepth 100000 in
theorem db_cL_law_dL_law_355_10 : zw [(355, .iaload, 1), (356, .aload_n 0, 1), (357, .iload 4, 2), (359, .iconst 3, 1), (360, .iadd, 1), (361, .iaload, 1), (362, .aload_n 0, 1), (363, .iload 4, 2), (365, .iconst 4, 1), (366, .iadd, 1), (367, .iaload, 1), (368, .invokevirtual 133, 3), (371, .istore 6, 2), (373, .goto 1171, 3), (376, .aload_n 1, 1), (377, .aload_n 0, 1)] (cL_law.data.toList.drop 355) 355 = true := by decide +kernel
def dc_cL_law_dL_law_355_10 := zw_16 db_cL_law_dL_law_355_10
def dL_law_355 := dc_cL_law_dL_law_355_10.1
def dL_law_356 := dc_cL_law_dL_law_355_10.2.1
def dL_law_357 := dc_cL_law_dL_law_355_10.2.2.1
def dL_law_359 := dc_cL_law_dL_law_355_10.2.2.2.1
def dL_law_360 := dc_cL_law_dL_law_355_10.2.2.2.2.1
def dL_law_361 := dc_cL_law_dL_law_355_10.2.2.2.2.2.1
def dL_law_362 := dc_cL_law_dL_law_355_10.2.2.2.2.2.2.1
def dL_law_363 := dc_cL_law_dL_law_355_10.2.2.2.2.2.2.2.1
def dL_law_365 := dc_cL_law_dL_law_355_10.2.2.2.2.2.2.2.2.1
def dL_law_366 := dc_cL_law_dL_law_355_10.2.2.2.2.2.2.2.2.2.1
def dL_law_367 := dc_cL_law_dL_law_355_10.2.2.2.2.2.2.2.2.2.2.1
def dL_law_368 := dc_cL_law_dL_law_355_10.2.2.2.2.2.2.2.2.2.2.2.1
def dL_law_371 := dc_cL_law_dL_law_355_10.2.2.2.2.2.2.2.2.2.2.2.2.1
def dL_law_373 := dc_cL_law_dL_law_355_10.2.2.2.2.2.2.2.2.2.2.2.2.2.1
def dL_law_376 := dc_cL_law_dL_law_355_10.2.2.2.2.2.2.2.2.2.2.2.2.2.2.1
def dL_law_377 := dc_cL_law_dL_law_355_10.2.2.2.2.2.2.2.2.2.2.2.2.2.2.2
set_option maxRecDepth 100000 in
theorem db_cL_law_dL_law_378_11 : zw [(378, .iload 4, 2), (380, .iconst 1, 1), (381, .iadd, 1), (382, .iaload, 1), (383, .aload_n 0, 1), (384, .iload 4, 2), (386, .iconst 2, 1), (387, .iadd, 1), (388, .iaload, 1), (389, .aload_n 0, 1), (390, .iload 4, 2), (392, .iconst 3, 1), (393, .iadd, 1), (394, .iaload, 1), (395, .ifCond .eq 7, 3), (398, .iconst 1, 1)] (cL_law.data.toList.drop 378) 378 = true := by decide +kernel
def dc_cL_law_dL_law_378_11 := zw_16 db_cL_law_dL_law_378_11
def dL_law_378 := dc_cL_law_dL_law_378_11.1
def dL_law_380 := dc_cL_law_dL_law_378_11.2.1
def dL_law_381 := dc_cL_law_dL_law_378_11.2.2.1
def dL_law_382 := dc_cL_law_dL_law_378_11.2.2.2.1
def dL_law_383 := dc_cL_law_dL_law_378_11.2.2.2.2.1
def dL_law_384 := dc_cL_law_dL_law_378_11.2.2.2.2.2.1
def dL_law_386 := dc_cL_law_dL_law_378_11.2.2.2.2.2.2.1
def dL_law_387 := dc_cL_law_dL_law_378_11.2.2.2.2.2.2.2.1
def dL_law_388 := dc_cL_law_dL_law_378_11.2.2.2.2.2.2.2.2.1
def dL_law_389 := dc_cL_law_dL_law_378_11.2.2.2.2.2.2.2.2.2.1
def dL_law_390 := dc_cL_law_dL_law_378_11.2.2.2.2.2.2.2.2.2.2.1
def dL_law_392 := dc_cL_law_dL_law_378_11.2.2.2.2.2.2.2.2.2.2.2.1
def dL_law_393 := dc_cL_law_dL_law_378_11.2.2.2.2.2.2.2.2.2.2.2.2.1
def dL_law_394 := dc_cL_law_dL_law_378_11.2.2.2.2.2.2.2.2.2.2.2.2.2.1
def dL_law_395 := dc_cL_law_dL_law_378_11.2.2.2.2.2.2.2.2.2.2.2.2.2.2.1
def dL_law_398 := dc_cL_law_dL_law_378_11.2.2.2.2.2.2.2.2.2.2.2.2.2.2.2
set_option maxRecDepth 100000 in
theorem db_cL_law_dL_law_399_12 : zw [(399, .goto 4, 3), (402, .iconst 0, 1), (403, .aload_n 0, 1), (404, .iload 4, 2), (406, .iconst 4, 1), (407, .iadd, 1), (408, .iaload, 1), (409, .ifCond .eq 7, 3), (412, .iconst 1, 1), (413, .goto 4, 3), (416, .iconst 0, 1), (417, .aload_n 3, 1), (418, .invokestatic 134, 3), (421, .istore 5, 2), (423, .aload_n 2, 1), (424, .aload_n 0, 1)] (cL_law.data.toList.drop 399) 399 = true := by decide +kernel
def dc_cL_law_dL_law_399_12 := zw_16 db_cL_law_dL_law_399_12
def dL_law_399 := dc_cL_law_dL_law_399_12.1
def dL_law_402 := dc_cL_law_dL_law_399_12.2.1
def dL_law_403 := dc_cL_law_dL_law_399_12.2.2.1
def dL_law_404 := dc_cL_law_dL_law_399_12.2.2.2.1
def dL_law_406 := dc_cL_law_dL_law_399_12.2.2.2.2.1
def dL_law_407 := dc_cL_law_dL_law_399_12.2.2.2.2.2.1
def dL_law_408 := dc_cL_law_dL_law_399_12.2.2.2.2.2.2.1
def dL_law_409 := dc_cL_law_dL_law_399_12.2.2.2.2.2.2.2.1
def dL_law_412 := dc_cL_law_dL_law_399_12.2.2.2.2.2.2.2.2.1
def dL_law_413 := dc_cL_law_dL_law_399_12.2.2.2.2.2.2.2.2.2.1
def dL_law_416 := dc_cL_law_dL_law_399_12.2.2.2.2.2.2.2.2.2.2.1
def dL_law_417 := dc_cL_law_dL_law_399_12.2.2.2.2.2.2.2.2.2.2.2.1
def dL_law_418 := dc_cL_law_dL_law_399_12.2.2.2.2.2.2.2.2.2.2.2.2.1
def dL_law_421 := dc_cL_law_dL_law_399_12.2.2.2.2.2.2.2.2.2.2.2.2.2.1
def dL_law_423 := dc_cL_law_dL_law_399_12.2.2.2.2.2.2.2.2.2.2.2.2.2.2.1
def dL_law_424 := dc_cL_law_dL_law_399_12.2.2.2.2.2.2.2.2.2.2.2.2.2.2.2
set_option maxRecDepth 100000 in
theorem db_cL_law_dL_law_425_13 : zw [(425, .iload 4, 2), (427, .iconst 1, 1), (428, .iadd, 1), (429, .iaload, 1), (430, .aload_n 0, 1), (431, .iload 4, 2), (433, .iconst 2, 1), (434, .iadd, 1), (435, .iaload, 1), (436, .aload_n 0, 1), (437, .iload 4, 2), (439, .iconst 3, 1), (440, .iadd, 1), (441, .iaload, 1), (442, .ifCond .eq 7, 3), (445, .iconst 1, 1)] (cL_law.data.toList.drop 425) 425 = true := by decide +kernel
def dc_cL_law_dL_law_425_13 := zw_16 db_cL_law_dL_law_425_13
def dL_law_425 := dc_cL_law_dL_law_425_13.1
def dL_law_427 := dc_cL_law_dL_law_425_13.2.1
def dL_law_428 := dc_cL_law_dL_law_425_13.2.2.1
def dL_law_429 := dc_cL_law_dL_law_425_13.2.2.2.1
def dL_law_430 := dc_cL_law_dL_law_425_13.2.2.2.2.1
def dL_law_431 := dc_cL_law_dL_law_425_13.2.2.2.2.2.1
def dL_law_433 := dc_cL_law_dL_law_425_13.2.2.2.2.2.2.1
def dL_law_434 := dc_cL_law_dL_law_425_13.2.2.2.2.2.2.2.1
def dL_law_435 := dc_cL_law_dL_law_425_13.2.2.2.2.2.2.2.2.1
def dL_law_436 := dc_cL_law_dL_law_425_13.2.2.2.2.2.2.2.2.2.1
def dL_law_437 := dc_cL_law_dL_law_425_13.2.2.2.2.2.2.2.2.2.2.1
def dL_law_439 := dc_cL_law_dL_law_425_13.2.2.2.2.2.2.2.2.2.2.2.1
def dL_law_440 := dc_cL_law_dL_law_425_13.2.2.2.2.2.2.2.2.2.2.2.2.1
def dL_law_441 := dc_cL_law_dL_law_425_13.2.2.2.2.2.2.2.2.2.2.2.2.2.1
def dL_law_442 := dc_cL_law_dL_law_425_13.2.2.2.2.2.2.2.2.2.2.2.2.2.2.1
def dL_law_445 := dc_cL_law_dL_law_425_13.2.2.2.2.2.2.2.2.2.2.2.2.2.2.2
set_option maxRecDepth 100000 in
theorem db_cL_law_dL_law_446_14 : zw [(446, .goto 4, 3), (449, .iconst 0, 1), (450, .aload_n 0, 1), (451, .iload 4, 2), (453, .iconst 4, 1), (454, .iadd, 1), (455, .iaload, 1), (456, .ifCond .eq 7, 3), (459, .iconst 1, 1), (460, .goto 4, 3), (463, .iconst 0, 1), (464, .invokevirtual 137, 3), (467, .istore 6, 2), (469, .goto 1075, 3), (472, .aload_n 1, 1), (473, .aload_n 0, 1)] (cL_law.data.toList.drop 446) 446 = true := by decide +kernel
def dc_cL_law_dL_law_446_14 := zw_16 db_cL_law_dL_law_446_14
def dL_law_446 := dc_cL_law_dL_law_446_14.1
def dL_law_449 := dc_cL_law_dL_law_446_14.2.1
def dL_law_450 := dc_cL_law_dL_law_446_14.2.2.1
def dL_law_451 := dc_cL_law_dL_law_446_14.2.2.2.1
def dL_law_453 := dc_cL_law_dL_law_446_14.2.2.2.2.1
def dL_law_454 := dc_cL_law_dL_law_446_14.2.2.2.2.2.1
def dL_law_455 := dc_cL_law_dL_law_446_14.2.2.2.2.2.2.1
def dL_law_456 := dc_cL_law_dL_law_446_14.2.2.2.2.2.2.2.1
def dL_law_459 := dc_cL_law_dL_law_446_14.2.2.2.2.2.2.2.2.1
def dL_law_460 := dc_cL_law_dL_law_446_14.2.2.2.2.2.2.2.2.2.1
def dL_law_463 := dc_cL_law_dL_law_446_14.2.2.2.2.2.2.2.2.2.2.1
def dL_law_464 := dc_cL_law_dL_law_446_14.2.2.2.2.2.2.2.2.2.2.2.1
def dL_law_467 := dc_cL_law_dL_law_446_14.2.2.2.2.2.2.2.2.2.2.2.2.1
def dL_law_469 := dc_cL_law_dL_law_446_14.2.2.2.2.2.2.2.2.2.2.2.2.2.1
def dL_law_472 := dc_cL_law_dL_law_446_14.2.2.2.2.2.2.2.2.2.2.2.2.2.2.1
def dL_law_473 := dc_cL_law_dL_law_446_14.2.2.2.2.2.2.2.2.2.2.2.2.2.2.2
set_option maxRecDepth 100000 in
theorem db_cL_law_dL_law_474_15 : zw [(474, .iload 4, 2), (476, .iconst 1, 1), (477, .iadd, 1), (478, .iaload, 1), (479, .aload_n 0, 1), (480, .iload 4, 2), (482, .iconst 2, 1), (483, .iadd, 1), (484, .iaload, 1), (485, .aload_n 0, 1), (486, .iload 4, 2), (488, .iconst 3, 1), (489, .iadd, 1), (490, .iaload, 1), (491, .aload_n 0, 1), (492, .iload 4, 2)] (cL_law.data.toList.drop 474) 474 = true := by decide +kernel
def dc_cL_law_dL_law_474_15 := zw_16 db_cL_law_dL_law_474_15
def dL_law_474 := dc_cL_law_dL_law_474_15.1
def dL_law_476 := dc_cL_law_dL_law_474_15.2.1
def dL_law_477 := dc_cL_law_dL_law_474_15.2.2.1
def dL_law_478 := dc_cL_law_dL_law_474_15.2.2.2.1
def dL_law_479 := dc_cL_law_dL_law_474_15.2.2.2.2.1
def dL_law_480 := dc_cL_law_dL_law_474_15.2.2.2.2.2.1
def dL_law_482 := dc_cL_law_dL_law_474_15.2.2.2.2.2.2.1
def dL_law_483 := dc_cL_law_dL_law_474_15.2.2.2.2.2.2.2.1
def dL_law_484 := dc_cL_law_dL_law_474_15.2.2.2.2.2.2.2.2.1
def dL_law_485 := dc_cL_law_dL_law_474_15.2.2.2.2.2.2.2.2.2.1
def dL_law_486 := dc_cL_law_dL_law_474_15.2.2.2.2.2.2.2.2.2.2.1
def dL_law_488 := dc_cL_law_dL_law_474_15.2.2.2.2.2.2.2.2.2.2.2.1
def dL_law_489 := dc_cL_law_dL_law_474_15.2.2.2.2.2.2.2.2.2.2.2.2.1
def dL_law_490 := dc_cL_law_dL_law_474_15.2.2.2.2.2.2.2.2.2.2.2.2.2.1
def dL_law_491 := dc_cL_law_dL_law_474_15.2.2.2.2.2.2.2.2.2.2.2.2.2.2.1
def dL_law_492 := dc_cL_law_dL_law_474_15.2.2.2.2.2.2.2.2.2.2.2.2.2.2.2
set_option maxRecDepth 100000 in
theorem db_cL_law_dL_law_494_16 : zw [(494, .iconst 4, 1), (495, .iadd, 1), (496, .iaload, 1), (497, .aload_n 3, 1), (498, .invokestatic 138, 3), (501, .istore 5, 2), (503, .aload_n 2, 1), (504, .aload_n 0, 1), (505, .iload 4, 2), (507, .iconst 1, 1), (508, .iadd, 1), (509, .iaload, 1), (510, .aload_n 0, 1), (511, .iload 4, 2), (513, .iconst 2, 1), (514, .iadd, 1)] (cL_law.data.toList.drop 494) 494 = true := by decide +kernel
def dc_cL_law_dL_law_494_16 := zw_16 db_cL_law_dL_law_494_16
def dL_law_494 := dc_cL_law_dL_law_494_16.1
def dL_law_495 := dc_cL_law_dL_law_494_16.2.1
def dL_law_496 := dc_cL_law_dL_law_494_16.2.2.1
def dL_law_497 := dc_cL_law_dL_law_494_16.2.2.2.1
def dL_law_498 := dc_cL_law_dL_law_494_16.2.2.2.2.1
def dL_law_501 := dc_cL_law_dL_law_494_16.2.2.2.2.2.1
def dL_law_503 := dc_cL_law_dL_law_494_16.2.2.2.2.2.2.1
def dL_law_504 := dc_cL_law_dL_law_494_16.2.2.2.2.2.2.2.1
def dL_law_505 := dc_cL_law_dL_law_494_16.2.2.2.2.2.2.2.2.1
def dL_law_507 := dc_cL_law_dL_law_494_16.2.2.2.2.2.2.2.2.2.1
def dL_law_508 := dc_cL_law_dL_law_494_16.2.2.2.2.2.2.2.2.2.2.1
def dL_law_509 := dc_cL_law_dL_law_494_16.2.2.2.2.2.2.2.2.2.2.2.1
def dL_law_510 := dc_cL_law_dL_law_494_16.2.2.2.2.2.2.2.2.2.2.2.2.1
def dL_law_511 := dc_cL_law_dL_law_494_16.2.2.2.2.2.2.2.2.2.2.2.2.2.1
def dL_law_513 := dc_cL_law_dL_law_494_16.2.2.2.2.2.2.2.2.2.2.2.2.2.2.1
def dL_law_514 := dc_cL_law_dL_law_494_16.2.2.2.2.2.2.2.2.2.2.2.2.2.2.2
set_option maxRecDepth 100000 in
theorem db_cL_law_dL_law_515_17 : zw [(515, .iaload, 1), (516, .aload_n 0, 1), (517, .iload 4, 2), (519, .iconst 3, 1), (520, .iadd, 1), (521, .iaload, 1), (522, .aload_n 0, 1), (523, .iload 4, 2), (525, .iconst 4, 1), (526, .iadd, 1), (527, .iaload, 1), (528, .invokevirtual 140, 3), (531, .istore 6, 2), (533, .goto 1011, 3), (536, .aload_n 1, 1), (537, .aload_n 0, 1)] (cL_law.data.toList.drop 515) 515 = true := by decide +kernel
def dc_cL_law_dL_law_515_17 := zw_16 db_cL_law_dL_law_515_17
def dL_law_515 := dc_cL_law_dL_law_515_17.1
def dL_law_516 := dc_cL_law_dL_law_515_17.2.1
def dL_law_517 := dc_cL_law_dL_law_515_17.2.2.1
def dL_law_519 := dc_cL_law_dL_law_515_17.2.2.2.1
def dL_law_520 := dc_cL_law_dL_law_515_17.2.2.2.2.1
def dL_law_521 := dc_cL_law_dL_law_515_17.2.2.2.2.2.1
def dL_law_522 := dc_cL_law_dL_law_515_17.2.2.2.2.2.2.1
def dL_law_523 := dc_cL_law_dL_law_515_17.2.2.2.2.2.2.2.1
def dL_law_525 := dc_cL_law_dL_law_515_17.2.2.2.2.2.2.2.2.1
def dL_law_526 := dc_cL_law_dL_law_515_17.2.2.2.2.2.2.2.2.2.1
def dL_law_527 := dc_cL_law_dL_law_515_17.2.2.2.2.2.2.2.2.2.2.1
def dL_law_528 := dc_cL_law_dL_law_515_17.2.2.2.2.2.2.2.2.2.2.2.1
def dL_law_531 := dc_cL_law_dL_law_515_17.2.2.2.2.2.2.2.2.2.2.2.2.1
def dL_law_533 := dc_cL_law_dL_law_515_17.2.2.2.2.2.2.2.2.2.2.2.2.2.1
def dL_law_536 := dc_cL_law_dL_law_515_17.2.2.2.2.2.2.2.2.2.2.2.2.2.2.1
def dL_law_537 := dc_cL_law_dL_law_515_17.2.2.2.2.2.2.2.2.2.2.2.2.2.2.2
set_option maxRecDepth 100000 in
theorem db_cL_law_dL_law_538_18 : zw [(538, .iload 4, 2), (540, .iconst 1, 1), (541, .iadd, 1), (542, .iaload, 1), (543, .aload_n 0, 1), (544, .iload 4, 2), (546, .iconst 2, 1), (547, .iadd, 1), (548, .iaload, 1), (549, .aload_n 3, 1), (550, .invokestatic 141, 3), (553, .istore 5, 2), (555, .aload_n 2, 1), (556, .aload_n 0, 1), (557, .iload 4, 2), (559, .iconst 1, 1)] (cL_law.data.toList.drop 538) 538 = true := by decide +kernel
def dc_cL_law_dL_law_538_18 := zw_16 db_cL_law_dL_law_538_18
def dL_law_538 := dc_cL_law_dL_law_538_18.1
def dL_law_540 := dc_cL_law_dL_law_538_18.2.1
def dL_law_541 := dc_cL_law_dL_law_538_18.2.2.1
def dL_law_542 := dc_cL_law_dL_law_538_18.2.2.2.1
def dL_law_543 := dc_cL_law_dL_law_538_18.2.2.2.2.1
def dL_law_544 := dc_cL_law_dL_law_538_18.2.2.2.2.2.1
def dL_law_546 := dc_cL_law_dL_law_538_18.2.2.2.2.2.2.1
def dL_law_547 := dc_cL_law_dL_law_538_18.2.2.2.2.2.2.2.1
def dL_law_548 := dc_cL_law_dL_law_538_18.2.2.2.2.2.2.2.2.1
def dL_law_549 := dc_cL_law_dL_law_538_18.2.2.2.2.2.2.2.2.2.1
def dL_law_550 := dc_cL_law_dL_law_538_18.2.2.2.2.2.2.2.2.2.2.1
def dL_law_553 := dc_cL_law_dL_law_538_18.2.2.2.2.2.2.2.2.2.2.2.1
def dL_law_555 := dc_cL_law_dL_law_538_18.2.2.2.2.2.2.2.2.2.2.2.2.1
def dL_law_556 := dc_cL_law_dL_law_538_18.2.2.2.2.2.2.2.2.2.2.2.2.2.1
def dL_law_557 := dc_cL_law_dL_law_538_18.2.2.2.2.2.2.2.2.2.2.2.2.2.2.1
def dL_law_559 := dc_cL_law_dL_law_538_18.2.2.2.2.2.2.2.2.2.2.2.2.2.2.2
set_option maxRecDepth 100000 in
theorem db_cL_law_dL_law_560_19 : zw [(560, .iadd, 1), (561, .iaload, 1), (562, .aload_n 0, 1), (563, .iload 4, 2), (565, .iconst 2, 1), (566, .iadd, 1), (567, .iaload, 1), (568, .invokevirtual 143, 3), (571, .istore 6, 2), (573, .goto 971, 3), (576, .aload_n 1, 1), (577, .aload_n 0, 1), (578, .iload 4, 2), (580, .iconst 1, 1), (581, .iadd, 1), (582, .iaload, 1)] (cL_law.data.toList.drop 560) 560 = true := by decide +kernel
def dc_cL_law_dL_law_560_19 := zw_16 db_cL_law_dL_law_560_19
def dL_law_560 := dc_cL_law_dL_law_560_19.1
def dL_law_561 := dc_cL_law_dL_law_560_19.2.1
def dL_law_562 := dc_cL_law_dL_law_560_19.2.2.1
def dL_law_563 := dc_cL_law_dL_law_560_19.2.2.2.1
def dL_law_565 := dc_cL_law_dL_law_560_19.2.2.2.2.1
def dL_law_566 := dc_cL_law_dL_law_560_19.2.2.2.2.2.1
def dL_law_567 := dc_cL_law_dL_law_560_19.2.2.2.2.2.2.1
def dL_law_568 := dc_cL_law_dL_law_560_19.2.2.2.2.2.2.2.1
def dL_law_571 := dc_cL_law_dL_law_560_19.2.2.2.2.2.2.2.2.1
def dL_law_573 := dc_cL_law_dL_law_560_19.2.2.2.2.2.2.2.2.2.1
def dL_law_576 := dc_cL_law_dL_law_560_19.2.2.2.2.2.2.2.2.2.2.1
def dL_law_577 := dc_cL_law_dL_law_560_19.2.2.2.2.2.2.2.2.2.2.2.1
def dL_law_578 := dc_cL_law_dL_law_560_19.2.2.2.2.2.2.2.2.2.2.2.2.1
def dL_law_580 := dc_cL_law_dL_law_560_19.2.2.2.2.2.2.2.2.2.2.2.2.2.1
def dL_law_581 := dc_cL_law_dL_law_560_19.2.2.2.2.2.2.2.2.2.2.2.2.2.2.1
def dL_law_582 := dc_cL_law_dL_law_560_19.2.2.2.2.2.2.2.2.2.2.2.2.2.2.2
set_option maxRecDepth 100000 in
theorem db_cL_law_dL_law_583_20 : zw [(583, .aload_n 0, 1), (584, .iload 4, 2), (586, .iconst 2, 1), (587, .iadd, 1), (588, .iaload, 1), (589, .aload_n 3, 1), (590, .invokestatic 144, 3), (593, .istore 5, 2), (595, .aload_n 2, 1), (596, .aload_n 0, 1), (597, .iload 4, 2), (599, .iconst 1, 1), (600, .iadd, 1), (601, .iaload, 1), (602, .aload_n 0, 1), (603, .iload 4, 2)] (cL_law.data.toList.drop 583) 583 = true := by decide +kernel
def dc_cL_law_dL_law_583_20 := zw_16 db_cL_law_dL_law_583_20
def dL_law_583 := dc_cL_law_dL_law_583_20.1
def dL_law_584 := dc_cL_law_dL_law_583_20.2.1
def dL_law_586 := dc_cL_law_dL_law_583_20.2.2.1
def dL_law_587 := dc_cL_law_dL_law_583_20.2.2.2.1
def dL_law_588 := dc_cL_law_dL_law_583_20.2.2.2.2.1
def dL_law_589 := dc_cL_law_dL_law_583_20.2.2.2.2.2.1
def dL_law_590 := dc_cL_law_dL_law_583_20.2.2.2.2.2.2.1
def dL_law_593 := dc_cL_law_dL_law_583_20.2.2.2.2.2.2.2.1
def dL_law_595 := dc_cL_law_dL_law_583_20.2.2.2.2.2.2.2.2.1
def dL_law_596 := dc_cL_law_dL_law_583_20.2.2.2.2.2.2.2.2.2.1
def dL_law_597 := dc_cL_law_dL_law_583_20.2.2.2.2.2.2.2.2.2.2.1
def dL_law_599 := dc_cL_law_dL_law_583_20.2.2.2.2.2.2.2.2.2.2.2.1
def dL_law_600 := dc_cL_law_dL_law_583_20.2.2.2.2.2.2.2.2.2.2.2.2.1
def dL_law_601 := dc_cL_law_dL_law_583_20.2.2.2.2.2.2.2.2.2.2.2.2.2.1
def dL_law_602 := dc_cL_law_dL_law_583_20.2.2.2.2.2.2.2.2.2.2.2.2.2.2.1
def dL_law_603 := dc_cL_law_dL_law_583_20.2.2.2.2.2.2.2.2.2.2.2.2.2.2.2
set_option maxRecDepth 100000 in
theorem db_cL_law_dL_law_605_21 : zw [(605, .iconst 2, 1), (606, .iadd, 1), (607, .iaload, 1), (608, .invokevirtual 146, 3), (611, .istore 6, 2), (613, .goto 931, 3), (616, .aload_n 1, 1), (617, .aload_n 0, 1), (618, .iload 4, 2), (620, .iconst 1, 1), (621, .iadd, 1), (622, .iaload, 1), (623, .aload_n 3, 1), (624, .invokestatic 147, 3), (627, .istore 5, 2), (629, .aload_n 2, 1)] (cL_law.data.toList.drop 605) 605 = true := by decide +kernel
def dc_cL_law_dL_law_605_21 := zw_16 db_cL_law_dL_law_605_21
def dL_law_605 := dc_cL_law_dL_law_605_21.1
def dL_law_606 := dc_cL_law_dL_law_605_21.2.1
def dL_law_607 := dc_cL_law_dL_law_605_21.2.2.1
def dL_law_608 := dc_cL_law_dL_law_605_21.2.2.2.1
def dL_law_611 := dc_cL_law_dL_law_605_21.2.2.2.2.1
def dL_law_613 := dc_cL_law_dL_law_605_21.2.2.2.2.2.1
def dL_law_616 := dc_cL_law_dL_law_605_21.2.2.2.2.2.2.1
def dL_law_617 := dc_cL_law_dL_law_605_21.2.2.2.2.2.2.2.1
def dL_law_618 := dc_cL_law_dL_law_605_21.2.2.2.2.2.2.2.2.1
def dL_law_620 := dc_cL_law_dL_law_605_21.2.2.2.2.2.2.2.2.2.1
def dL_law_621 := dc_cL_law_dL_law_605_21.2.2.2.2.2.2.2.2.2.2.1
def dL_law_622 := dc_cL_law_dL_law_605_21.2.2.2.2.2.2.2.2.2.2.2.1
def dL_law_623 := dc_cL_law_dL_law_605_21.2.2.2.2.2.2.2.2.2.2.2.2.1
def dL_law_624 := dc_cL_law_dL_law_605_21.2.2.2.2.2.2.2.2.2.2.2.2.2.1
def dL_law_627 := dc_cL_law_dL_law_605_21.2.2.2.2.2.2.2.2.2.2.2.2.2.2.1
def dL_law_629 := dc_cL_law_dL_law_605_21.2.2.2.2.2.2.2.2.2.2.2.2.2.2.2
set_option maxRecDepth 100000 in
theorem db_cL_law_dL_law_630_22 : zw [(630, .aload_n 0, 1), (631, .iload 4, 2), (633, .iconst 1, 1), (634, .iadd, 1), (635, .iaload, 1), (636, .invokevirtual 150, 3), (639, .istore 6, 2), (641, .goto 903, 3), (644, .aload_n 1, 1), (645, .aload_n 0, 1), (646, .iload 4, 2), (648, .iconst 1, 1), (649, .iadd, 1), (650, .iaload, 1), (651, .aload_n 3, 1), (652, .invokestatic 151, 3)] (cL_law.data.toList.drop 630) 630 = true := by decide +kernel
def dc_cL_law_dL_law_630_22 := zw_16 db_cL_law_dL_law_630_22
def dL_law_630 := dc_cL_law_dL_law_630_22.1
def dL_law_631 := dc_cL_law_dL_law_630_22.2.1
def dL_law_633 := dc_cL_law_dL_law_630_22.2.2.1
def dL_law_634 := dc_cL_law_dL_law_630_22.2.2.2.1
def dL_law_635 := dc_cL_law_dL_law_630_22.2.2.2.2.1
def dL_law_636 := dc_cL_law_dL_law_630_22.2.2.2.2.2.1
def dL_law_639 := dc_cL_law_dL_law_630_22.2.2.2.2.2.2.1
def dL_law_641 := dc_cL_law_dL_law_630_22.2.2.2.2.2.2.2.1
def dL_law_644 := dc_cL_law_dL_law_630_22.2.2.2.2.2.2.2.2.1
def dL_law_645 := dc_cL_law_dL_law_630_22.2.2.2.2.2.2.2.2.2.1
def dL_law_646 := dc_cL_law_dL_law_630_22.2.2.2.2.2.2.2.2.2.2.1
def dL_law_648 := dc_cL_law_dL_law_630_22.2.2.2.2.2.2.2.2.2.2.2.1
def dL_law_649 := dc_cL_law_dL_law_630_22.2.2.2.2.2.2.2.2.2.2.2.2.1
def dL_law_650 := dc_cL_law_dL_law_630_22.2.2.2.2.2.2.2.2.2.2.2.2.2.1
def dL_law_651 := dc_cL_law_dL_law_630_22.2.2.2.2.2.2.2.2.2.2.2.2.2.2.1
def dL_law_652 := dc_cL_law_dL_law_630_22.2.2.2.2.2.2.2.2.2.2.2.2.2.2.2
set_option maxRecDepth 100000 in
theorem db_cL_law_dL_law_655_23 : zw [(655, .istore 5, 2), (657, .aload_n 2, 1), (658, .aload_n 0, 1), (659, .iload 4, 2), (661, .iconst 1, 1), (662, .iadd, 1), (663, .iaload, 1), (664, .invokevirtual 153, 3), (667, .istore 6, 2), (669, .goto 875, 3), (672, .aload_n 1, 1), (673, .aload_n 0, 1), (674, .iload 4, 2), (676, .iconst 1, 1), (677, .iadd, 1), (678, .iaload, 1)] (cL_law.data.toList.drop 655) 655 = true := by decide +kernel
def dc_cL_law_dL_law_655_23 := zw_16 db_cL_law_dL_law_655_23
def dL_law_655 := dc_cL_law_dL_law_655_23.1
def dL_law_657 := dc_cL_law_dL_law_655_23.2.1
def dL_law_658 := dc_cL_law_dL_law_655_23.2.2.1
def dL_law_659 := dc_cL_law_dL_law_655_23.2.2.2.1
def dL_law_661 := dc_cL_law_dL_law_655_23.2.2.2.2.1
def dL_law_662 := dc_cL_law_dL_law_655_23.2.2.2.2.2.1
def dL_law_663 := dc_cL_law_dL_law_655_23.2.2.2.2.2.2.1
def dL_law_664 := dc_cL_law_dL_law_655_23.2.2.2.2.2.2.2.1
def dL_law_667 := dc_cL_law_dL_law_655_23.2.2.2.2.2.2.2.2.1
def dL_law_669 := dc_cL_law_dL_law_655_23.2.2.2.2.2.2.2.2.2.1
def dL_law_672 := dc_cL_law_dL_law_655_23.2.2.2.2.2.2.2.2.2.2.1
def dL_law_673 := dc_cL_law_dL_law_655_23.2.2.2.2.2.2.2.2.2.2.2.1
def dL_law_674 := dc_cL_law_dL_law_655_23.2.2.2.2.2.2.2.2.2.2.2.2.1
def dL_law_676 := dc_cL_law_dL_law_655_23.2.2.2.2.2.2.2.2.2.2.2.2.2.1
def dL_law_677 := dc_cL_law_dL_law_655_23.2.2.2.2.2.2.2.2.2.2.2.2.2.2.1
def dL_law_678 := dc_cL_law_dL_law_655_23.2.2.2.2.2.2.2.2.2.2.2.2.2.2.2
set_option maxRecDepth 100000 in
theorem db_cL_law_dL_law_679_24 : zw [(679, .aload_n 3, 1), (680, .invokestatic 154, 3), (683, .istore 5, 2), (685, .aload_n 2, 1), (686, .aload_n 0, 1), (687, .iload 4, 2), (689, .iconst 1, 1), (690, .iadd, 1), (691, .iaload, 1), (692, .invokevirtual 156, 3), (695, .istore 6, 2), (697, .goto 847, 3), (700, .aload_n 1, 1), (701, .aload_n 0, 1), (702, .iload 4, 2), (704, .iconst 1, 1)] (cL_law.data.toList.drop 679) 679 = true := by decide +kernel
def dc_cL_law_dL_law_679_24 := zw_16 db_cL_law_dL_law_679_24
def dL_law_679 := dc_cL_law_dL_law_679_24.1
def dL_law_680 := dc_cL_law_dL_law_679_24.2.1
def dL_law_683 := dc_cL_law_dL_law_679_24.2.2.1
def dL_law_685 := dc_cL_law_dL_law_679_24.2.2.2.1
def dL_law_686 := dc_cL_law_dL_law_679_24.2.2.2.2.1
def dL_law_687 := dc_cL_law_dL_law_679_24.2.2.2.2.2.1
def dL_law_689 := dc_cL_law_dL_law_679_24.2.2.2.2.2.2.1
def dL_law_690 := dc_cL_law_dL_law_679_24.2.2.2.2.2.2.2.1
def dL_law_691 := dc_cL_law_dL_law_679_24.2.2.2.2.2.2.2.2.1
def dL_law_692 := dc_cL_law_dL_law_679_24.2.2.2.2.2.2.2.2.2.1
def dL_law_695 := dc_cL_law_dL_law_679_24.2.2.2.2.2.2.2.2.2.2.1
def dL_law_697 := dc_cL_law_dL_law_679_24.2.2.2.2.2.2.2.2.2.2.2.1
def dL_law_700 := dc_cL_law_dL_law_679_24.2.2.2.2.2.2.2.2.2.2.2.2.1
def dL_law_701 := dc_cL_law_dL_law_679_24.2.2.2.2.2.2.2.2.2.2.2.2.2.1
def dL_law_702 := dc_cL_law_dL_law_679_24.2.2.2.2.2.2.2.2.2.2.2.2.2.2.1
def dL_law_704 := dc_cL_law_dL_law_679_24.2.2.2.2.2.2.2.2.2.2.2.2.2.2.2
set_option maxRecDepth 100000 in
theorem db_cL_law_dL_law_705_25 : zw [(705, .iadd, 1), (706, .iaload, 1), (707, .aload_n 0, 1), (708, .iload 4, 2), (710, .iconst 2, 1), (711, .iadd, 1), (712, .iaload, 1), (713, .aload_n 3, 1), (714, .invokestatic 157, 3), (717, .istore 5, 2), (719, .aload_n 2, 1), (720, .aload_n 0, 1), (721, .iload 4, 2), (723, .iconst 1, 1), (724, .iadd, 1), (725, .iaload, 1)] (cL_law.data.toList.drop 705) 705 = true := by decide +kernel
def dc_cL_law_dL_law_705_25 := zw_16 db_cL_law_dL_law_705_25
def dL_law_705 := dc_cL_law_dL_law_705_25.1
def dL_law_706 := dc_cL_law_dL_law_705_25.2.1
def dL_law_707 := dc_cL_law_dL_law_705_25.2.2.1
def dL_law_708 := dc_cL_law_dL_law_705_25.2.2.2.1
def dL_law_710 := dc_cL_law_dL_law_705_25.2.2.2.2.1
def dL_law_711 := dc_cL_law_dL_law_705_25.2.2.2.2.2.1
def dL_law_712 := dc_cL_law_dL_law_705_25.2.2.2.2.2.2.1
def dL_law_713 := dc_cL_law_dL_law_705_25.2.2.2.2.2.2.2.1
def dL_law_714 := dc_cL_law_dL_law_705_25.2.2.2.2.2.2.2.2.1
def dL_law_717 := dc_cL_law_dL_law_705_25.2.2.2.2.2.2.2.2.2.1
def dL_law_719 := dc_cL_law_dL_law_705_25.2.2.2.2.2.2.2.2.2.2.1
def dL_law_720 := dc_cL_law_dL_law_705_25.2.2.2.2.2.2.2.2.2.2.2.1
def dL_law_721 := dc_cL_law_dL_law_705_25.2.2.2.2.2.2.2.2.2.2.2.2.1
def dL_law_723 := dc_cL_law_dL_law_705_25.2.2.2.2.2.2.2.2.2.2.2.2.2.1
def dL_law_724 := dc_cL_law_dL_law_705_25.2.2.2.2.2.2.2.2.2.2.2.2.2.2.1
def dL_law_725 := dc_cL_law_dL_law_705_25.2.2.2.2.2.2.2.2.2.2.2.2.2.2.2
set_option maxRecDepth 100000 in
theorem db_cL_law_dL_law_726_26 : zw [(726, .aload_n 0, 1), (727, .iload 4, 2), (729, .iconst 2, 1), (730, .iadd, 1), (731, .iaload, 1), (732, .invokevirtual 159, 3), (735, .istore 6, 2), (737, .goto 807, 3), (740, .aload_n 1, 1), (741, .aload_n 0, 1), (742, .iload 4, 2), (744, .iconst 1, 1), (745, .iadd, 1), (746, .iaload, 1), (747, .aload_n 0, 1), (748, .iload 4, 2)] (cL_law.data.toList.drop 726) 726 = true := by decide +kernel
def dc_cL_law_dL_law_726_26 := zw_16 db_cL_law_dL_law_726_26
def dL_law_726 := dc_cL_law_dL_law_726_26.1
def dL_law_727 := dc_cL_law_dL_law_726_26.2.1
def dL_law_729 := dc_cL_law_dL_law_726_26.2.2.1
def dL_law_730 := dc_cL_law_dL_law_726_26.2.2.2.1
def dL_law_731 := dc_cL_law_dL_law_726_26.2.2.2.2.1
def dL_law_732 := dc_cL_law_dL_law_726_26.2.2.2.2.2.1
def dL_law_735 := dc_cL_law_dL_law_726_26.2.2.2.2.2.2.1
def dL_law_737 := dc_cL_law_dL_law_726_26.2.2.2.2.2.2.2.1
def dL_law_740 := dc_cL_law_dL_law_726_26.2.2.2.2.2.2.2.2.1
def dL_law_741 := dc_cL_law_dL_law_726_26.2.2.2.2.2.2.2.2.2.1
def dL_law_742 := dc_cL_law_dL_law_726_26.2.2.2.2.2.2.2.2.2.2.1
def dL_law_744 := dc_cL_law_dL_law_726_26.2.2.2.2.2.2.2.2.2.2.2.1
def dL_law_745 := dc_cL_law_dL_law_726_26.2.2.2.2.2.2.2.2.2.2.2.2.1
def dL_law_746 := dc_cL_law_dL_law_726_26.2.2.2.2.2.2.2.2.2.2.2.2.2.1
def dL_law_747 := dc_cL_law_dL_law_726_26.2.2.2.2.2.2.2.2.2.2.2.2.2.2.1
def dL_law_748 := dc_cL_law_dL_law_726_26.2.2.2.2.2.2.2.2.2.2.2.2.2.2.2
set_option maxRecDepth 100000 in
theorem db_cL_law_dL_law_750_27 : zw [(750, .iconst 2, 1), (751, .iadd, 1), (752, .iaload, 1), (753, .ifCond .eq 7, 3), (756, .iconst 1, 1), (757, .goto 4, 3), (760, .iconst 0, 1), (761, .aload_n 0, 1), (762, .iload 4, 2), (764, .iconst 3, 1), (765, .iadd, 1), (766, .iaload, 1), (767, .aload_n 3, 1), (768, .invokestatic 160, 3), (771, .istore 5, 2), (773, .aload_n 2, 1)] (cL_law.data.toList.drop 750) 750 = true := by decide +kernel
def dc_cL_law_dL_law_750_27 := zw_16 db_cL_law_dL_law_750_27
def dL_law_750 := dc_cL_law_dL_law_750_27.1
def dL_law_751 := dc_cL_law_dL_law_750_27.2.1
def dL_law_752 := dc_cL_law_dL_law_750_27.2.2.1
def dL_law_753 := dc_cL_law_dL_law_750_27.2.2.2.1
def dL_law_756 := dc_cL_law_dL_law_750_27.2.2.2.2.1
def dL_law_757 := dc_cL_law_dL_law_750_27.2.2.2.2.2.1
def dL_law_760 := dc_cL_law_dL_law_750_27.2.2.2.2.2.2.1
def dL_law_761 := dc_cL_law_dL_law_750_27.2.2.2.2.2.2.2.1
def dL_law_762 := dc_cL_law_dL_law_750_27.2.2.2.2.2.2.2.2.1
def dL_law_764 := dc_cL_law_dL_law_750_27.2.2.2.2.2.2.2.2.2.1
def dL_law_765 := dc_cL_law_dL_law_750_27.2.2.2.2.2.2.2.2.2.2.1
def dL_law_766 := dc_cL_law_dL_law_750_27.2.2.2.2.2.2.2.2.2.2.2.1
def dL_law_767 := dc_cL_law_dL_law_750_27.2.2.2.2.2.2.2.2.2.2.2.2.1
def dL_law_768 := dc_cL_law_dL_law_750_27.2.2.2.2.2.2.2.2.2.2.2.2.2.1
def dL_law_771 := dc_cL_law_dL_law_750_27.2.2.2.2.2.2.2.2.2.2.2.2.2.2.1
def dL_law_773 := dc_cL_law_dL_law_750_27.2.2.2.2.2.2.2.2.2.2.2.2.2.2.2
set_option maxRecDepth 100000 in
theorem db_cL_law_dL_law_774_28 : zw [(774, .aload_n 0, 1), (775, .iload 4, 2), (777, .iconst 1, 1), (778, .iadd, 1), (779, .iaload, 1), (780, .aload_n 0, 1), (781, .iload 4, 2), (783, .iconst 2, 1), (784, .iadd, 1), (785, .iaload, 1), (786, .ifCond .eq 7, 3), (789, .iconst 1, 1), (790, .goto 4, 3), (793, .iconst 0, 1), (794, .aload_n 0, 1), (795, .iload 4, 2)] (cL_law.data.toList.drop 774) 774 = true := by decide +kernel
def dc_cL_law_dL_law_774_28 := zw_16 db_cL_law_dL_law_774_28
def dL_law_774 := dc_cL_law_dL_law_774_28.1
def dL_law_775 := dc_cL_law_dL_law_774_28.2.1
def dL_law_777 := dc_cL_law_dL_law_774_28.2.2.1
def dL_law_778 := dc_cL_law_dL_law_774_28.2.2.2.1
def dL_law_779 := dc_cL_law_dL_law_774_28.2.2.2.2.1
def dL_law_780 := dc_cL_law_dL_law_774_28.2.2.2.2.2.1
def dL_law_781 := dc_cL_law_dL_law_774_28.2.2.2.2.2.2.1
def dL_law_783 := dc_cL_law_dL_law_774_28.2.2.2.2.2.2.2.1
def dL_law_784 := dc_cL_law_dL_law_774_28.2.2.2.2.2.2.2.2.1
def dL_law_785 := dc_cL_law_dL_law_774_28.2.2.2.2.2.2.2.2.2.1
def dL_law_786 := dc_cL_law_dL_law_774_28.2.2.2.2.2.2.2.2.2.2.1
def dL_law_789 := dc_cL_law_dL_law_774_28.2.2.2.2.2.2.2.2.2.2.2.1
def dL_law_790 := dc_cL_law_dL_law_774_28.2.2.2.2.2.2.2.2.2.2.2.2.1
def dL_law_793 := dc_cL_law_dL_law_774_28.2.2.2.2.2.2.2.2.2.2.2.2.2.1
def dL_law_794 := dc_cL_law_dL_law_774_28.2.2.2.2.2.2.2.2.2.2.2.2.2.2.1
def dL_law_795 := dc_cL_law_dL_law_774_28.2.2.2.2.2.2.2.2.2.2.2.2.2.2.2
set_option maxRecDepth 100000 in
theorem db_cL_law_dL_law_797_29 : zw [(797, .iconst 3, 1), (798, .iadd, 1), (799, .iaload, 1), (800, .invokevirtual 163, 3), (803, .istore 6, 2), (805, .goto 739, 3), (808, .aload_n 1, 1), (809, .aload_n 0, 1), (810, .iload 4, 2), (812, .iconst 1, 1), (813, .iadd, 1), (814, .iaload, 1), (815, .aload_n 0, 1), (816, .iload 4, 2), (818, .iconst 2, 1), (819, .iadd, 1)] (cL_law.data.toList.drop 797) 797 = true := by decide +kernel
def dc_cL_law_dL_law_797_29 := zw_16 db_cL_law_dL_law_797_29
def dL_law_797 := dc_cL_law_dL_law_797_29.1
def dL_law_798 := dc_cL_law_dL_law_797_29.2.1
def dL_law_799 := dc_cL_law_dL_law_797_29.2.2.1
def dL_law_800 := dc_cL_law_dL_law_797_29.2.2.2.1
def dL_law_803 := dc_cL_law_dL_law_797_29.2.2.2.2.1
def dL_law_805 := dc_cL_law_dL_law_797_29.2.2.2.2.2.1
def dL_law_808 := dc_cL_law_dL_law_797_29.2.2.2.2.2.2.1
def dL_law_809 := dc_cL_law_dL_law_797_29.2.2.2.2.2.2.2.1
def dL_law_810 := dc_cL_law_dL_law_797_29.2.2.2.2.2.2.2.2.1
def dL_law_812 := dc_cL_law_dL_law_797_29.2.2.2.2.2.2.2.2.2.1
def dL_law_813 := dc_cL_law_dL_law_797_29.2.2.2.2.2.2.2.2.2.2.1
def dL_law_814 := dc_cL_law_dL_law_797_29.2.2.2.2.2.2.2.2.2.2.2.1
def dL_law_815 := dc_cL_law_dL_law_797_29.2.2.2.2.2.2.2.2.2.2.2.2.1
def dL_law_816 := dc_cL_law_dL_law_797_29.2.2.2.2.2.2.2.2.2.2.2.2.2.1
def dL_law_818 := dc_cL_law_dL_law_797_29.2.2.2.2.2.2.2.2.2.2.2.2.2.2.1
def dL_law_819 := dc_cL_law_dL_law_797_29.2.2.2.2.2.2.2.2.2.2.2.2.2.2.2
set_option maxRecDepth 100000 in
theorem db_cL_law_dL_law_820_30 : zw [(820, .iaload, 1), (821, .aload_n 0, 1), (822, .iload 4, 2), (824, .iconst 3, 1), (825, .iadd, 1), (826, .iaload, 1), (827, .aload_n 0, 1), (828, .iload 4, 2), (830, .iconst 4, 1), (831, .iadd, 1), (832, .iaload, 1), (833, .aload_n 3, 1), (834, .invokestatic 164, 3), (837, .istore 5, 2), (839, .aload_n 2, 1), (840, .aload_n 0, 1)] (cL_law.data.toList.drop 820) 820 = true := by decide +kernel
def dc_cL_law_dL_law_820_30 := zw_16 db_cL_law_dL_law_820_30
def dL_law_820 := dc_cL_law_dL_law_820_30.1
def dL_law_821 := dc_cL_law_dL_law_820_30.2.1
def dL_law_822 := dc_cL_law_dL_law_820_30.2.2.1
def dL_law_824 := dc_cL_law_dL_law_820_30.2.2.2.1
def dL_law_825 := dc_cL_law_dL_law_820_30.2.2.2.2.1
def dL_law_826 := dc_cL_law_dL_law_820_30.2.2.2.2.2.1
def dL_law_827 := dc_cL_law_dL_law_820_30.2.2.2.2.2.2.1
def dL_law_828 := dc_cL_law_dL_law_820_30.2.2.2.2.2.2.2.1
def dL_law_830 := dc_cL_law_dL_law_820_30.2.2.2.2.2.2.2.2.1
def dL_law_831 := dc_cL_law_dL_law_820_30.2.2.2.2.2.2.2.2.2.1
def dL_law_832 := dc_cL_law_dL_law_820_30.2.2.2.2.2.2.2.2.2.2.1
def dL_law_833 := dc_cL_law_dL_law_820_30.2.2.2.2.2.2.2.2.2.2.2.1
def dL_law_834 := dc_cL_law_dL_law_820_30.2.2.2.2.2.2.2.2.2.2.2.2.1
def dL_law_837 := dc_cL_law_dL_law_820_30.2.2.2.2.2.2.2.2.2.2.2.2.2.1
def dL_law_839 := dc_cL_law_dL_law_820_30.2.2.2.2.2.2.2.2.2.2.2.2.2.2.1
def dL_law_840 := dc_cL_law_dL_law_820_30.2.2.2.2.2.2.2.2.2.2.2.2.2.2.2
set_option maxRecDepth 100000 in
theorem db_cL_law_dL_law_841_31 : zw [(841, .iload 4, 2), (843, .iconst 1, 1), (844, .iadd, 1), (845, .iaload, 1), (846, .aload_n 0, 1), (847, .iload 4, 2), (849, .iconst 2, 1), (850, .iadd, 1), (851, .iaload, 1), (852, .aload_n 0, 1), (853, .iload 4, 2), (855, .iconst 3, 1), (856, .iadd, 1), (857, .iaload, 1), (858, .aload_n 0, 1), (859, .iload 4, 2)] (cL_law.data.toList.drop 841) 841 = true := by decide +kernel
def dc_cL_law_dL_law_841_31 := zw_16 db_cL_law_dL_law_841_31
def dL_law_841 := dc_cL_law_dL_law_841_31.1
def dL_law_843 := dc_cL_law_dL_law_841_31.2.1
def dL_law_844 := dc_cL_law_dL_law_841_31.2.2.1
def dL_law_845 := dc_cL_law_dL_law_841_31.2.2.2.1
def dL_law_846 := dc_cL_law_dL_law_841_31.2.2.2.2.1
def dL_law_847 := dc_cL_law_dL_law_841_31.2.2.2.2.2.1
def dL_law_849 := dc_cL_law_dL_law_841_31.2.2.2.2.2.2.1
def dL_law_850 := dc_cL_law_dL_law_841_31.2.2.2.2.2.2.2.1
def dL_law_851 := dc_cL_law_dL_law_841_31.2.2.2.2.2.2.2.2.1
def dL_law_852 := dc_cL_law_dL_law_841_31.2.2.2.2.2.2.2.2.2.1
def dL_law_853 := dc_cL_law_dL_law_841_31.2.2.2.2.2.2.2.2.2.2.1
def dL_law_855 := dc_cL_law_dL_law_841_31.2.2.2.2.2.2.2.2.2.2.2.1
def dL_law_856 := dc_cL_law_dL_law_841_31.2.2.2.2.2.2.2.2.2.2.2.2.1
def dL_law_857 := dc_cL_law_dL_law_841_31.2.2.2.2.2.2.2.2.2.2.2.2.2.1
def dL_law_858 := dc_cL_law_dL_law_841_31.2.2.2.2.2.2.2.2.2.2.2.2.2.2.1
def dL_law_859 := dc_cL_law_dL_law_841_31.2.2.2.2.2.2.2.2.2.2.2.2.2.2.2
set_option maxRecDepth 100000 in
theorem db_cL_law_dL_law_861_32 : zw [(861, .iconst 4, 1), (862, .iadd, 1), (863, .iaload, 1), (864, .invokevirtual 166, 3), (867, .istore 6, 2), (869, .goto 675, 3), (872, .aload_n 1, 1), (873, .aload_n 0, 1), (874, .iload 4, 2), (876, .iconst 1, 1), (877, .iadd, 1), (878, .iaload, 1), (879, .aload_n 0, 1), (880, .iload 4, 2), (882, .iconst 2, 1), (883, .iadd, 1)] (cL_law.data.toList.drop 861) 861 = true := by decide +kernel
def dc_cL_law_dL_law_861_32 := zw_16 db_cL_law_dL_law_861_32
def dL_law_861 := dc_cL_law_dL_law_861_32.1
def dL_law_862 := dc_cL_law_dL_law_861_32.2.1
def dL_law_863 := dc_cL_law_dL_law_861_32.2.2.1
def dL_law_864 := dc_cL_law_dL_law_861_32.2.2.2.1
def dL_law_867 := dc_cL_law_dL_law_861_32.2.2.2.2.1
def dL_law_869 := dc_cL_law_dL_law_861_32.2.2.2.2.2.1
def dL_law_872 := dc_cL_law_dL_law_861_32.2.2.2.2.2.2.1
def dL_law_873 := dc_cL_law_dL_law_861_32.2.2.2.2.2.2.2.1
def dL_law_874 := dc_cL_law_dL_law_861_32.2.2.2.2.2.2.2.2.1
def dL_law_876 := dc_cL_law_dL_law_861_32.2.2.2.2.2.2.2.2.2.1
def dL_law_877 := dc_cL_law_dL_law_861_32.2.2.2.2.2.2.2.2.2.2.1
def dL_law_878 := dc_cL_law_dL_law_861_32.2.2.2.2.2.2.2.2.2.2.2.1
def dL_law_879 := dc_cL_law_dL_law_861_32.2.2.2.2.2.2.2.2.2.2.2.2.1
def dL_law_880 := dc_cL_law_dL_law_861_32.2.2.2.2.2.2.2.2.2.2.2.2.2.1
def dL_law_882 := dc_cL_law_dL_law_861_32.2.2.2.2.2.2.2.2.2.2.2.2.2.2.1
def dL_law_883 := dc_cL_law_dL_law_861_32.2.2.2.2.2.2.2.2.2.2.2.2.2.2.2
set_option maxRecDepth 100000 in
theorem db_cL_law_dL_law_884_33 : zw [(884, .iaload, 1), (885, .aload_n 3, 1), (886, .invokestatic 167, 3), (889, .istore 5, 2), (891, .aload_n 2, 1), (892, .aload_n 0, 1), (893, .iload 4, 2), (895, .iconst 1, 1), (896, .iadd, 1), (897, .iaload, 1), (898, .aload_n 0, 1), (899, .iload 4, 2), (901, .iconst 2, 1), (902, .iadd, 1), (903, .iaload, 1), (904, .invokevirtual 169, 3)] (cL_law.data.toList.drop 884) 884 = true := by decide +kernel
def dc_cL_law_dL_law_884_33 := zw_16 db_cL_law_dL_law_884_33
def dL_law_884 := dc_cL_law_dL_law_884_33.1
def dL_law_885 := dc_cL_law_dL_law_884_33.2.1
def dL_law_886 := dc_cL_law_dL_law_884_33.2.2.1
def dL_law_889 := dc_cL_law_dL_law_884_33.2.2.2.1
def dL_law_891 := dc_cL_law_dL_law_884_33.2.2.2.2.1
def dL_law_892 := dc_cL_law_dL_law_884_33.2.2.2.2.2.1
def dL_law_893 := dc_cL_law_dL_law_884_33.2.2.2.2.2.2.1
def dL_law_895 := dc_cL_law_dL_law_884_33.2.2.2.2.2.2.2.1
def dL_law_896 := dc_cL_law_dL_law_884_33.2.2.2.2.2.2.2.2.1
def dL_law_897 := dc_cL_law_dL_law_884_33.2.2.2.2.2.2.2.2.2.1
def dL_law_898 := dc_cL_law_dL_law_884_33.2.2.2.2.2.2.2.2.2.2.1
def dL_law_899 := dc_cL_law_dL_law_884_33.2.2.2.2.2.2.2.2.2.2.2.1
def dL_law_901 := dc_cL_law_dL_law_884_33.2.2.2.2.2.2.2.2.2.2.2.2.1
def dL_law_902 := dc_cL_law_dL_law_884_33.2.2.2.2.2.2.2.2.2.2.2.2.2.1
def dL_law_903 := dc_cL_law_dL_law_884_33.2.2.2.2.2.2.2.2.2.2.2.2.2.2.1
def dL_law_904 := dc_cL_law_dL_law_884_33.2.2.2.2.2.2.2.2.2.2.2.2.2.2.2
set_option maxRecDepth 100000 in
theorem db_cL_law_dL_law_907_34 : zw [(907, .istore 6, 2), (909, .goto 635, 3), (912, .aload_n 1, 1), (913, .aload_n 0, 1), (914, .iload 4, 2), (916, .iconst 1, 1), (917, .iadd, 1), (918, .iaload, 1), (919, .aload_n 0, 1), (920, .iload 4, 2), (922, .iconst 2, 1), (923, .iadd, 1), (924, .iaload, 1), (925, .aload_n 0, 1), (926, .iload 4, 2), (928, .iconst 3, 1)] (cL_law.data.toList.drop 907) 907 = true := by decide +kernel
def dc_cL_law_dL_law_907_34 := zw_16 db_cL_law_dL_law_907_34
def dL_law_907 := dc_cL_law_dL_law_907_34.1
def dL_law_909 := dc_cL_law_dL_law_907_34.2.1
def dL_law_912 := dc_cL_law_dL_law_907_34.2.2.1
def dL_law_913 := dc_cL_law_dL_law_907_34.2.2.2.1
def dL_law_914 := dc_cL_law_dL_law_907_34.2.2.2.2.1
def dL_law_916 := dc_cL_law_dL_law_907_34.2.2.2.2.2.1
def dL_law_917 := dc_cL_law_dL_law_907_34.2.2.2.2.2.2.1
def dL_law_918 := dc_cL_law_dL_law_907_34.2.2.2.2.2.2.2.1
def dL_law_919 := dc_cL_law_dL_law_907_34.2.2.2.2.2.2.2.2.1
def dL_law_920 := dc_cL_law_dL_law_907_34.2.2.2.2.2.2.2.2.2.1
def dL_law_922 := dc_cL_law_dL_law_907_34.2.2.2.2.2.2.2.2.2.2.1
def dL_law_923 := dc_cL_law_dL_law_907_34.2.2.2.2.2.2.2.2.2.2.2.1
def dL_law_924 := dc_cL_law_dL_law_907_34.2.2.2.2.2.2.2.2.2.2.2.2.1
def dL_law_925 := dc_cL_law_dL_law_907_34.2.2.2.2.2.2.2.2.2.2.2.2.2.1
def dL_law_926 := dc_cL_law_dL_law_907_34.2.2.2.2.2.2.2.2.2.2.2.2.2.2.1
def dL_law_928 := dc_cL_law_dL_law_907_34.2.2.2.2.2.2.2.2.2.2.2.2.2.2.2
set_option maxRecDepth 100000 in
theorem db_cL_law_dL_law_929_35 : zw [(929, .iadd, 1), (930, .iaload, 1), (931, .aload_n 3, 1), (932, .invokestatic 170, 3), (935, .istore 5, 2), (937, .aload_n 2, 1), (938, .aload_n 0, 1), (939, .iload 4, 2), (941, .iconst 1, 1), (942, .iadd, 1), (943, .iaload, 1), (944, .aload_n 0, 1), (945, .iload 4, 2), (947, .iconst 2, 1), (948, .iadd, 1), (949, .iaload, 1)] (cL_law.data.toList.drop 929) 929 = true := by decide +kernel
def dc_cL_law_dL_law_929_35 := zw_16 db_cL_law_dL_law_929_35
def dL_law_929 := dc_cL_law_dL_law_929_35.1
def dL_law_930 := dc_cL_law_dL_law_929_35.2.1
def dL_law_931 := dc_cL_law_dL_law_929_35.2.2.1
def dL_law_932 := dc_cL_law_dL_law_929_35.2.2.2.1
def dL_law_935 := dc_cL_law_dL_law_929_35.2.2.2.2.1
def dL_law_937 := dc_cL_law_dL_law_929_35.2.2.2.2.2.1
def dL_law_938 := dc_cL_law_dL_law_929_35.2.2.2.2.2.2.1
def dL_law_939 := dc_cL_law_dL_law_929_35.2.2.2.2.2.2.2.1
def dL_law_941 := dc_cL_law_dL_law_929_35.2.2.2.2.2.2.2.2.1
def dL_law_942 := dc_cL_law_dL_law_929_35.2.2.2.2.2.2.2.2.2.1
def dL_law_943 := dc_cL_law_dL_law_929_35.2.2.2.2.2.2.2.2.2.2.1
def dL_law_944 := dc_cL_law_dL_law_929_35.2.2.2.2.2.2.2.2.2.2.2.1
def dL_law_945 := dc_cL_law_dL_law_929_35.2.2.2.2.2.2.2.2.2.2.2.2.1
def dL_law_947 := dc_cL_law_dL_law_929_35.2.2.2.2.2.2.2.2.2.2.2.2.2.1
def dL_law_948 := dc_cL_law_dL_law_929_35.2.2.2.2.2.2.2.2.2.2.2.2.2.2.1
def dL_law_949 := dc_cL_law_dL_law_929_35.2.2.2.2.2.2.2.2.2.2.2.2.2.2.2
set_option maxRecDepth 100000 in
theorem db_cL_law_dL_law_950_36 : zw [(950, .aload_n 0, 1), (951, .iload 4, 2), (953, .iconst 3, 1), (954, .iadd, 1), (955, .iaload, 1), (956, .invokevirtual 173, 3), (959, .istore 6, 2), (961, .goto 583, 3), (964, .aload_n 1, 1), (965, .aload_n 0, 1), (966, .iload 4, 2), (968, .iconst 1, 1), (969, .iadd, 1), (970, .iaload, 1), (971, .aload_n 0, 1), (972, .iload 4, 2)] (cL_law.data.toList.drop 950) 950 = true := by decide +kernel
def dc_cL_law_dL_law_950_36 := zw_16 db_cL_law_dL_law_950_36
def dL_law_950 := dc_cL_law_dL_law_950_36.1
def dL_law_951 := dc_cL_law_dL_law_950_36.2.1
def dL_law_953 := dc_cL_law_dL_law_950_36.2.2.1
def dL_law_954 := dc_cL_law_dL_law_950_36.2.2.2.1
def dL_law_955 := dc_cL_law_dL_law_950_36.2.2.2.2.1
def dL_law_956 := dc_cL_law_dL_law_950_36.2.2.2.2.2.1
def dL_law_959 := dc_cL_law_dL_law_950_36.2.2.2.2.2.2.1
def dL_law_961 := dc_cL_law_dL_law_950_36.2.2.2.2.2.2.2.1
def dL_law_964 := dc_cL_law_dL_law_950_36.2.2.2.2.2.2.2.2.1
def dL_law_965 := dc_cL_law_dL_law_950_36.2.2.2.2.2.2.2.2.2.1
def dL_law_966 := dc_cL_law_dL_law_950_36.2.2.2.2.2.2.2.2.2.2.1
def dL_law_968 := dc_cL_law_dL_law_950_36.2.2.2.2.2.2.2.2.2.2.2.1
def dL_law_969 := dc_cL_law_dL_law_950_36.2.2.2.2.2.2.2.2.2.2.2.2.1
def dL_law_970 := dc_cL_law_dL_law_950_36.2.2.2.2.2.2.2.2.2.2.2.2.2.1
def dL_law_971 := dc_cL_law_dL_law_950_36.2.2.2.2.2.2.2.2.2.2.2.2.2.2.1
def dL_law_972 := dc_cL_law_dL_law_950_36.2.2.2.2.2.2.2.2.2.2.2.2.2.2.2
set_option maxRecDepth 100000 in
theorem db_cL_law_dL_law_974_37 : zw [(974, .iconst 2, 1), (975, .iadd, 1), (976, .iaload, 1), (977, .aload_n 0, 1), (978, .iload 4, 2), (980, .iconst 3, 1), (981, .iadd, 1), (982, .iaload, 1), (983, .aload_n 3, 1), (984, .invokestatic 174, 3), (987, .istore 5, 2), (989, .aload_n 2, 1), (990, .aload_n 0, 1), (991, .iload 4, 2), (993, .iconst 1, 1), (994, .iadd, 1)] (cL_law.data.toList.drop 974) 974 = true := by decide +kernel
def dc_cL_law_dL_law_974_37 := zw_16 db_cL_law_dL_law_974_37
def dL_law_974 := dc_cL_law_dL_law_974_37.1
def dL_law_975 := dc_cL_law_dL_law_974_37.2.1
def dL_law_976 := dc_cL_law_dL_law_974_37.2.2.1
def dL_law_977 := dc_cL_law_dL_law_974_37.2.2.2.1
def dL_law_978 := dc_cL_law_dL_law_974_37.2.2.2.2.1
def dL_law_980 := dc_cL_law_dL_law_974_37.2.2.2.2.2.1
def dL_law_981 := dc_cL_law_dL_law_974_37.2.2.2.2.2.2.1
def dL_law_982 := dc_cL_law_dL_law_974_37.2.2.2.2.2.2.2.1
def dL_law_983 := dc_cL_law_dL_law_974_37.2.2.2.2.2.2.2.2.1
def dL_law_984 := dc_cL_law_dL_law_974_37.2.2.2.2.2.2.2.2.2.1
def dL_law_987 := dc_cL_law_dL_law_974_37.2.2.2.2.2.2.2.2.2.2.1
def dL_law_989 := dc_cL_law_dL_law_974_37.2.2.2.2.2.2.2.2.2.2.2.1
def dL_law_990 := dc_cL_law_dL_law_974_37.2.2.2.2.2.2.2.2.2.2.2.2.1
def dL_law_991 := dc_cL_law_dL_law_974_37.2.2.2.2.2.2.2.2.2.2.2.2.2.1
def dL_law_993 := dc_cL_law_dL_law_974_37.2.2.2.2.2.2.2.2.2.2.2.2.2.2.1
def dL_law_994 := dc_cL_law_dL_law_974_37.2.2.2.2.2.2.2.2.2.2.2.2.2.2.2
set_option maxRecDepth 100000 in
theorem db_cL_law_dL_law_995_38 : zw [(995, .iaload, 1), (996, .aload_n 0, 1), (997, .iload 4, 2), (999, .iconst 2, 1), (1000, .iadd, 1), (1001, .iaload, 1), (1002, .aload_n 0, 1), (1003, .iload 4, 2), (1005, .iconst 3, 1), (1006, .iadd, 1), (1007, .iaload, 1), (1008, .invokevirtual 176, 3), (1011, .istore 6, 2), (1013, .goto 531, 3), (1016, .aload_n 1, 1), (1017, .aload_n 0, 1)] (cL_law.data.toList.drop 995) 995 = true := by decide +kernel
def dc_cL_law_dL_law_995_38 := zw_16 db_cL_law_dL_law_995_38
def dL_law_995 := dc_cL_law_dL_law_995_38.1
def dL_law_996 := dc_cL_law_dL_law_995_38.2.1
def dL_law_997 := dc_cL_law_dL_law_995_38.2.2.1
def dL_law_999 := dc_cL_law_dL_law_995_38.2.2.2.1
def dL_law_1000 := dc_cL_law_dL_law_995_38.2.2.2.2.1
def dL_law_1001 := dc_cL_law_dL_law_995_38.2.2.2.2.2.1
def dL_law_1002 := dc_cL_law_dL_law_995_38.2.2.2.2.2.2.1
def dL_law_1003 := dc_cL_law_dL_law_995_38.2.2.2.2.2.2.2.1
def dL_law_1005 := dc_cL_law_dL_law_995_38.2.2.2.2.2.2.2.2.1
def dL_law_1006 := dc_cL_law_dL_law_995_38.2.2.2.2.2.2.2.2.2.1
def dL_law_1007 := dc_cL_law_dL_law_995_38.2.2.2.2.2.2.2.2.2.2.1
def dL_law_1008 := dc_cL_law_dL_law_995_38.2.2.2.2.2.2.2.2.2.2.2.1
def dL_law_1011 := dc_cL_law_dL_law_995_38.2.2.2.2.2.2.2.2.2.2.2.2.1
def dL_law_1013 := dc_cL_law_dL_law_995_38.2.2.2.2.2.2.2.2.2.2.2.2.2.1
def dL_law_1016 := dc_cL_law_dL_law_995_38.2.2.2.2.2.2.2.2.2.2.2.2.2.2.1
def dL_law_1017 := dc_cL_law_dL_law_995_38.2.2.2.2.2.2.2.2.2.2.2.2.2.2.2
set_option maxRecDepth 100000 in
theorem db_cL_law_dL_law_1018_39 : zw [(1018, .iload 4, 2), (1020, .iconst 1, 1), (1021, .iadd, 1), (1022, .iaload, 1), (1023, .aload_n 0, 1), (1024, .iload 4, 2), (1026, .iconst 2, 1), (1027, .iadd, 1), (1028, .iaload, 1), (1029, .aload_n 0, 1), (1030, .iload 4, 2), (1032, .iconst 3, 1), (1033, .iadd, 1), (1034, .iaload, 1), (1035, .aload_n 0, 1), (1036, .iload 4, 2)] (cL_law.data.toList.drop 1018) 1018 = true := by decide +kernel
def dc_cL_law_dL_law_1018_39 := zw_16 db_cL_law_dL_law_1018_39
def dL_law_1018 := dc_cL_law_dL_law_1018_39.1
def dL_law_1020 := dc_cL_law_dL_law_1018_39.2.1
def dL_law_1021 := dc_cL_law_dL_law_1018_39.2.2.1
def dL_law_1022 := dc_cL_law_dL_law_1018_39.2.2.2.1
def dL_law_1023 := dc_cL_law_dL_law_1018_39.2.2.2.2.1
def dL_law_1024 := dc_cL_law_dL_law_1018_39.2.2.2.2.2.1
def dL_law_1026 := dc_cL_law_dL_law_1018_39.2.2.2.2.2.2.1
def dL_law_1027 := dc_cL_law_dL_law_1018_39.2.2.2.2.2.2.2.1
def dL_law_1028 := dc_cL_law_dL_law_1018_39.2.2.2.2.2.2.2.2.1
def dL_law_1029 := dc_cL_law_dL_law_1018_39.2.2.2.2.2.2.2.2.2.1
def dL_law_1030 := dc_cL_law_dL_law_1018_39.2.2.2.2.2.2.2.2.2.2.1
def dL_law_1032 := dc_cL_law_dL_law_1018_39.2.2.2.2.2.2.2.2.2.2.2.1
def dL_law_1033 := dc_cL_law_dL_law_1018_39.2.2.2.2.2.2.2.2.2.2.2.2.1
def dL_law_1034 := dc_cL_law_dL_law_1018_39.2.2.2.2.2.2.2.2.2.2.2.2.2.1
def dL_law_1035 := dc_cL_law_dL_law_1018_39.2.2.2.2.2.2.2.2.2.2.2.2.2.2.1
def dL_law_1036 := dc_cL_law_dL_law_1018_39.2.2.2.2.2.2.2.2.2.2.2.2.2.2.2
set_option maxRecDepth 100000 in
theorem db_cL_law_dL_law_1038_40 : zw [(1038, .iconst 4, 1), (1039, .iadd, 1), (1040, .iaload, 1), (1041, .aload_n 3, 1), (1042, .invokestatic 177, 3), (1045, .istore 5, 2), (1047, .aload_n 2, 1), (1048, .aload_n 0, 1), (1049, .iload 4, 2), (1051, .iconst 1, 1), (1052, .iadd, 1), (1053, .iaload, 1), (1054, .aload_n 0, 1), (1055, .iload 4, 2), (1057, .iconst 2, 1), (1058, .iadd, 1)] (cL_law.data.toList.drop 1038) 1038 = true := by decide +kernel
def dc_cL_law_dL_law_1038_40 := zw_16 db_cL_law_dL_law_1038_40
def dL_law_1038 := dc_cL_law_dL_law_1038_40.1
def dL_law_1039 := dc_cL_law_dL_law_1038_40.2.1
def dL_law_1040 := dc_cL_law_dL_law_1038_40.2.2.1
def dL_law_1041 := dc_cL_law_dL_law_1038_40.2.2.2.1
def dL_law_1042 := dc_cL_law_dL_law_1038_40.2.2.2.2.1
def dL_law_1045 := dc_cL_law_dL_law_1038_40.2.2.2.2.2.1
def dL_law_1047 := dc_cL_law_dL_law_1038_40.2.2.2.2.2.2.1
def dL_law_1048 := dc_cL_law_dL_law_1038_40.2.2.2.2.2.2.2.1
def dL_law_1049 := dc_cL_law_dL_law_1038_40.2.2.2.2.2.2.2.2.1
def dL_law_1051 := dc_cL_law_dL_law_1038_40.2.2.2.2.2.2.2.2.2.1
def dL_law_1052 := dc_cL_law_dL_law_1038_40.2.2.2.2.2.2.2.2.2.2.1
def dL_law_1053 := dc_cL_law_dL_law_1038_40.2.2.2.2.2.2.2.2.2.2.2.1
def dL_law_1054 := dc_cL_law_dL_law_1038_40.2.2.2.2.2.2.2.2.2.2.2.2.1
def dL_law_1055 := dc_cL_law_dL_law_1038_40.2.2.2.2.2.2.2.2.2.2.2.2.2.1
def dL_law_1057 := dc_cL_law_dL_law_1038_40.2.2.2.2.2.2.2.2.2.2.2.2.2.2.1
def dL_law_1058 := dc_cL_law_dL_law_1038_40.2.2.2.2.2.2.2.2.2.2.2.2.2.2.2
set_option maxRecDepth 100000 in
theorem db_cL_law_dL_law_1059_41 : zw [(1059, .iaload, 1), (1060, .aload_n 0, 1), (1061, .iload 4, 2), (1063, .iconst 3, 1), (1064, .iadd, 1), (1065, .iaload, 1), (1066, .aload_n 0, 1), (1067, .iload 4, 2), (1069, .iconst 4, 1), (1070, .iadd, 1), (1071, .iaload, 1), (1072, .invokevirtual 179, 3), (1075, .istore 6, 2), (1077, .goto 467, 3), (1080, .aload_n 1, 1), (1081, .aload_n 0, 1)] (cL_law.data.toList.drop 1059) 1059 = true := by decide +kernel
def dc_cL_law_dL_law_1059_41 := zw_16 db_cL_law_dL_law_1059_41
def dL_law_1059 := dc_cL_law_dL_law_1059_41.1
def dL_law_1060 := dc_cL_law_dL_law_1059_41.2.1
def dL_law_1061 := dc_cL_law_dL_law_1059_41.2.2.1
def dL_law_1063 := dc_cL_law_dL_law_1059_41.2.2.2.1
def dL_law_1064 := dc_cL_law_dL_law_1059_41.2.2.2.2.1
def dL_law_1065 := dc_cL_law_dL_law_1059_41.2.2.2.2.2.1
def dL_law_1066 := dc_cL_law_dL_law_1059_41.2.2.2.2.2.2.1
def dL_law_1067 := dc_cL_law_dL_law_1059_41.2.2.2.2.2.2.2.1
def dL_law_1069 := dc_cL_law_dL_law_1059_41.2.2.2.2.2.2.2.2.1
def dL_law_1070 := dc_cL_law_dL_law_1059_41.2.2.2.2.2.2.2.2.2.1
def dL_law_1071 := dc_cL_law_dL_law_1059_41.2.2.2.2.2.2.2.2.2.2.1
def dL_law_1072 := dc_cL_law_dL_law_1059_41.2.2.2.2.2.2.2.2.2.2.2.1
def dL_law_1075 := dc_cL_law_dL_law_1059_41.2.2.2.2.2.2.2.2.2.2.2.2.1
def dL_law_1077 := dc_cL_law_dL_law_1059_41.2.2.2.2.2.2.2.2.2.2.2.2.2.1
def dL_law_1080 := dc_cL_law_dL_law_1059_41.2.2.2.2.2.2.2.2.2.2.2.2.2.2.1
def dL_law_1081 := dc_cL_law_dL_law_1059_41.2.2.2.2.2.2.2.2.2.2.2.2.2.2.2
set_option maxRecDepth 100000 in
theorem db_cL_law_dL_law_1082_42 : zw [(1082, .iload 4, 2), (1084, .iconst 1, 1), (1085, .iadd, 1), (1086, .iaload, 1), (1087, .aload_n 0, 1), (1088, .iload 4, 2), (1090, .iconst 2, 1), (1091, .iadd, 1), (1092, .iaload, 1), (1093, .aload_n 3, 1), (1094, .invokestatic 180, 3), (1097, .istore 5, 2), (1099, .aload_n 2, 1), (1100, .aload_n 0, 1), (1101, .iload 4, 2), (1103, .iconst 1, 1)] (cL_law.data.toList.drop 1082) 1082 = true := by decide +kernel
def dc_cL_law_dL_law_1082_42 := zw_16 db_cL_law_dL_law_1082_42
def dL_law_1082 := dc_cL_law_dL_law_1082_42.1
def dL_law_1084 := dc_cL_law_dL_law_1082_42.2.1
def dL_law_1085 := dc_cL_law_dL_law_1082_42.2.2.1
def dL_law_1086 := dc_cL_law_dL_law_1082_42.2.2.2.1
def dL_law_1087 := dc_cL_law_dL_law_1082_42.2.2.2.2.1
def dL_law_1088 := dc_cL_law_dL_law_1082_42.2.2.2.2.2.1
def dL_law_1090 := dc_cL_law_dL_law_1082_42.2.2.2.2.2.2.1
def dL_law_1091 := dc_cL_law_dL_law_1082_42.2.2.2.2.2.2.2.1
def dL_law_1092 := dc_cL_law_dL_law_1082_42.2.2.2.2.2.2.2.2.1
def dL_law_1093 := dc_cL_law_dL_law_1082_42.2.2.2.2.2.2.2.2.2.1
def dL_law_1094 := dc_cL_law_dL_law_1082_42.2.2.2.2.2.2.2.2.2.2.1
def dL_law_1097 := dc_cL_law_dL_law_1082_42.2.2.2.2.2.2.2.2.2.2.2.1
def dL_law_1099 := dc_cL_law_dL_law_1082_42.2.2.2.2.2.2.2.2.2.2.2.2.1
def dL_law_1100 := dc_cL_law_dL_law_1082_42.2.2.2.2.2.2.2.2.2.2.2.2.2.1
def dL_law_1101 := dc_cL_law_dL_law_1082_42.2.2.2.2.2.2.2.2.2.2.2.2.2.2.1
def dL_law_1103 := dc_cL_law_dL_law_1082_42.2.2.2.2.2.2.2.2.2.2.2.2.2.2.2
set_option maxRecDepth 100000 in
theorem db_cL_law_dL_law_1104_43 : zw [(1104, .iadd, 1), (1105, .iaload, 1), (1106, .aload_n 0, 1), (1107, .iload 4, 2), (1109, .iconst 2, 1), (1110, .iadd, 1), (1111, .iaload, 1), (1112, .invokevirtual 182, 3), (1115, .istore 6, 2), (1117, .goto 427, 3), (1120, .aload_n 1, 1), (1121, .aload_n 0, 1), (1122, .iload 4, 2), (1124, .iconst 1, 1), (1125, .iadd, 1), (1126, .iaload, 1)] (cL_law.data.toList.drop 1104) 1104 = true := by decide +kernel
def dc_cL_law_dL_law_1104_43 := zw_16 db_cL_law_dL_law_1104_43
def dL_law_1104 := dc_cL_law_dL_law_1104_43.1
def dL_law_1105 := dc_cL_law_dL_law_1104_43.2.1
def dL_law_1106 := dc_cL_law_dL_law_1104_43.2.2.1
def dL_law_1107 := dc_cL_law_dL_law_1104_43.2.2.2.1
def dL_law_1109 := dc_cL_law_dL_law_1104_43.2.2.2.2.1
def dL_law_1110 := dc_cL_law_dL_law_1104_43.2.2.2.2.2.1
def dL_law_1111 := dc_cL_law_dL_law_1104_43.2.2.2.2.2.2.1
def dL_law_1112 := dc_cL_law_dL_law_1104_43.2.2.2.2.2.2.2.1
def dL_law_1115 := dc_cL_law_dL_law_1104_43.2.2.2.2.2.2.2.2.1
def dL_law_1117 := dc_cL_law_dL_law_1104_43.2.2.2.2.2.2.2.2.2.1
def dL_law_1120 := dc_cL_law_dL_law_1104_43.2.2.2.2.2.2.2.2.2.2.1
def dL_law_1121 := dc_cL_law_dL_law_1104_43.2.2.2.2.2.2.2.2.2.2.2.1
def dL_law_1122 := dc_cL_law_dL_law_1104_43.2.2.2.2.2.2.2.2.2.2.2.2.1
def dL_law_1124 := dc_cL_law_dL_law_1104_43.2.2.2.2.2.2.2.2.2.2.2.2.2.1
def dL_law_1125 := dc_cL_law_dL_law_1104_43.2.2.2.2.2.2.2.2.2.2.2.2.2.2.1
def dL_law_1126 := dc_cL_law_dL_law_1104_43.2.2.2.2.2.2.2.2.2.2.2.2.2.2.2
set_option maxRecDepth 100000 in
theorem db_cL_law_dL_law_1127_44 : zw [(1127, .aload_n 0, 1), (1128, .iload 4, 2), (1130, .iconst 2, 1), (1131, .iadd, 1), (1132, .iaload, 1), (1133, .aload_n 3, 1), (1134, .invokestatic 183, 3), (1137, .istore 5, 2), (1139, .aload_n 2, 1), (1140, .aload_n 0, 1), (1141, .iload 4, 2), (1143, .iconst 1, 1), (1144, .iadd, 1), (1145, .iaload, 1), (1146, .aload_n 0, 1), (1147, .iload 4, 2)] (cL_law.data.toList.drop 1127) 1127 = true := by decide +kernel
def dc_cL_law_dL_law_1127_44 := zw_16 db_cL_law_dL_law_1127_44
def dL_law_1127 := dc_cL_law_dL_law_1127_44.1
def dL_law_1128 := dc_cL_law_dL_law_1127_44.2.1
def dL_law_1130 := dc_cL_law_dL_law_1127_44.2.2.1
def dL_law_1131 := dc_cL_law_dL_law_1127_44.2.2.2.1
def dL_law_1132 := dc_cL_law_dL_law_1127_44.2.2.2.2.1
def dL_law_1133 := dc_cL_law_dL_law_1127_44.2.2.2.2.2.1
def dL_law_1134 := dc_cL_law_dL_law_1127_44.2.2.2.2.2.2.1
def dL_law_1137 := dc_cL_law_dL_law_1127_44.2.2.2.2.2.2.2.1
def dL_law_1139 := dc_cL_law_dL_law_1127_44.2.2.2.2.2.2.2.2.1
def dL_law_1140 := dc_cL_law_dL_law_1127_44.2.2.2.2.2.2.2.2.2.1
def dL_law_1141 := dc_cL_law_dL_law_1127_44.2.2.2.2.2.2.2.2.2.2.1
def dL_law_1143 := dc_cL_law_dL_law_1127_44.2.2.2.2.2.2.2.2.2.2.2.1
def dL_law_1144 := dc_cL_law_dL_law_1127_44.2.2.2.2.2.2.2.2.2.2.2.2.1
def dL_law_1145 := dc_cL_law_dL_law_1127_44.2.2.2.2.2.2.2.2.2.2.2.2.2.1
def dL_law_1146 := dc_cL_law_dL_law_1127_44.2.2.2.2.2.2.2.2.2.2.2.2.2.2.1
def dL_law_1147 := dc_cL_law_dL_law_1127_44.2.2.2.2.2.2.2.2.2.2.2.2.2.2.2
set_option maxRecDepth 100000 in
theorem db_cL_law_dL_law_1149_45 : zw [(1149, .iconst 2, 1), (1150, .iadd, 1), (1151, .iaload, 1), (1152, .invokevirtual 185, 3), (1155, .astore 6, 2), (1157, .goto 387, 3), (1160, .aload_n 1, 1), (1161, .aload_n 0, 1), (1162, .iload 4, 2), (1164, .iconst 1, 1), (1165, .iadd, 1), (1166, .iaload, 1), (1167, .aload_n 3, 1), (1168, .invokestatic 186, 3), (1171, .istore 5, 2), (1173, .aload_n 2, 1)] (cL_law.data.toList.drop 1149) 1149 = true := by decide +kernel
def dc_cL_law_dL_law_1149_45 := zw_16 db_cL_law_dL_law_1149_45
def dL_law_1149 := dc_cL_law_dL_law_1149_45.1
def dL_law_1150 := dc_cL_law_dL_law_1149_45.2.1
def dL_law_1151 := dc_cL_law_dL_law_1149_45.2.2.1
def dL_law_1152 := dc_cL_law_dL_law_1149_45.2.2.2.1
def dL_law_1155 := dc_cL_law_dL_law_1149_45.2.2.2.2.1
def dL_law_1157 := dc_cL_law_dL_law_1149_45.2.2.2.2.2.1
def dL_law_1160 := dc_cL_law_dL_law_1149_45.2.2.2.2.2.2.1
def dL_law_1161 := dc_cL_law_dL_law_1149_45.2.2.2.2.2.2.2.1
def dL_law_1162 := dc_cL_law_dL_law_1149_45.2.2.2.2.2.2.2.2.1
def dL_law_1164 := dc_cL_law_dL_law_1149_45.2.2.2.2.2.2.2.2.2.1
def dL_law_1165 := dc_cL_law_dL_law_1149_45.2.2.2.2.2.2.2.2.2.2.1
def dL_law_1166 := dc_cL_law_dL_law_1149_45.2.2.2.2.2.2.2.2.2.2.2.1
def dL_law_1167 := dc_cL_law_dL_law_1149_45.2.2.2.2.2.2.2.2.2.2.2.2.1
def dL_law_1168 := dc_cL_law_dL_law_1149_45.2.2.2.2.2.2.2.2.2.2.2.2.2.1
def dL_law_1171 := dc_cL_law_dL_law_1149_45.2.2.2.2.2.2.2.2.2.2.2.2.2.2.1
def dL_law_1173 := dc_cL_law_dL_law_1149_45.2.2.2.2.2.2.2.2.2.2.2.2.2.2.2
set_option maxRecDepth 100000 in
theorem db_cL_law_dL_law_1174_46 : zw [(1174, .aload_n 0, 1), (1175, .iload 4, 2), (1177, .iconst 1, 1), (1178, .iadd, 1), (1179, .iaload, 1), (1180, .invokevirtual 188, 3), (1183, .istore 6, 2), (1185, .goto 359, 3), (1188, .aload_n 1, 1), (1189, .aload_n 0, 1), (1190, .iload 4, 2), (1192, .iconst 1, 1), (1193, .iadd, 1), (1194, .iaload, 1), (1195, .aload_n 0, 1), (1196, .iload 4, 2)] (cL_law.data.toList.drop 1174) 1174 = true := by decide +kernel
def dc_cL_law_dL_law_1174_46 := zw_16 db_cL_law_dL_law_1174_46
def dL_law_1174 := dc_cL_law_dL_law_1174_46.1
def dL_law_1175 := dc_cL_law_dL_law_1174_46.2.1
def dL_law_1177 := dc_cL_law_dL_law_1174_46.2.2.1
def dL_law_1178 := dc_cL_law_dL_law_1174_46.2.2.2.1
def dL_law_1179 := dc_cL_law_dL_law_1174_46.2.2.2.2.1
def dL_law_1180 := dc_cL_law_dL_law_1174_46.2.2.2.2.2.1
def dL_law_1183 := dc_cL_law_dL_law_1174_46.2.2.2.2.2.2.1
def dL_law_1185 := dc_cL_law_dL_law_1174_46.2.2.2.2.2.2.2.1
def dL_law_1188 := dc_cL_law_dL_law_1174_46.2.2.2.2.2.2.2.2.1
def dL_law_1189 := dc_cL_law_dL_law_1174_46.2.2.2.2.2.2.2.2.2.1
def dL_law_1190 := dc_cL_law_dL_law_1174_46.2.2.2.2.2.2.2.2.2.2.1
def dL_law_1192 := dc_cL_law_dL_law_1174_46.2.2.2.2.2.2.2.2.2.2.2.1
def dL_law_1193 := dc_cL_law_dL_law_1174_46.2.2.2.2.2.2.2.2.2.2.2.2.1
def dL_law_1194 := dc_cL_law_dL_law_1174_46.2.2.2.2.2.2.2.2.2.2.2.2.2.1
def dL_law_1195 := dc_cL_law_dL_law_1174_46.2.2.2.2.2.2.2.2.2.2.2.2.2.2.1
def dL_law_1196 := dc_cL_law_dL_law_1174_46.2.2.2.2.2.2.2.2.2.2.2.2.2.2.2
set_option maxRecDepth 100000 in
theorem db_cL_law_dL_law_1198_47 : zw [(1198, .iconst 2, 1), (1199, .iadd, 1), (1200, .iaload, 1), (1201, .aload_n 0, 1), (1202, .iload 4, 2), (1204, .iconst 3, 1), (1205, .iadd, 1), (1206, .iaload, 1), (1207, .aload_n 3, 1), (1208, .invokestatic 189, 3), (1211, .istore 5, 2), (1213, .aload_n 2, 1), (1214, .aload_n 0, 1), (1215, .iload 4, 2), (1217, .iconst 1, 1), (1218, .iadd, 1)] (cL_law.data.toList.drop 1198) 1198 = true := by decide +kernel
def dc_cL_law_dL_law_1198_47 := zw_16 db_cL_law_dL_law_1198_47
def dL_law_1198 := dc_cL_law_dL_law_1198_47.1
def dL_law_1199 := dc_cL_law_dL_law_1198_47.2.1
def dL_law_1200 := dc_cL_law_dL_law_1198_47.2.2.1
def dL_law_1201 := dc_cL_law_dL_law_1198_47.2.2.2.1
def dL_law_1202 := dc_cL_law_dL_law_1198_47.2.2.2.2.1
def dL_law_1204 := dc_cL_law_dL_law_1198_47.2.2.2.2.2.1
def dL_law_1205 := dc_cL_law_dL_law_1198_47.2.2.2.2.2.2.1
def dL_law_1206 := dc_cL_law_dL_law_1198_47.2.2.2.2.2.2.2.1
def dL_law_1207 := dc_cL_law_dL_law_1198_47.2.2.2.2.2.2.2.2.1
def dL_law_1208 := dc_cL_law_dL_law_1198_47.2.2.2.2.2.2.2.2.2.1
def dL_law_1211 := dc_cL_law_dL_law_1198_47.2.2.2.2.2.2.2.2.2.2.1
def dL_law_1213 := dc_cL_law_dL_law_1198_47.2.2.2.2.2.2.2.2.2.2.2.1
def dL_law_1214 := dc_cL_law_dL_law_1198_47.2.2.2.2.2.2.2.2.2.2.2.2.1
def dL_law_1215 := dc_cL_law_dL_law_1198_47.2.2.2.2.2.2.2.2.2.2.2.2.2.1
def dL_law_1217 := dc_cL_law_dL_law_1198_47.2.2.2.2.2.2.2.2.2.2.2.2.2.2.1
def dL_law_1218 := dc_cL_law_dL_law_1198_47.2.2.2.2.2.2.2.2.2.2.2.2.2.2.2
set_option maxRecDepth 100000 in
theorem db_cL_law_dL_law_1219_48 : zw [(1219, .iaload, 1), (1220, .aload_n 0, 1), (1221, .iload 4, 2), (1223, .iconst 2, 1), (1224, .iadd, 1), (1225, .iaload, 1), (1226, .aload_n 0, 1), (1227, .iload 4, 2), (1229, .iconst 3, 1), (1230, .iadd, 1), (1231, .iaload, 1), (1232, .invokevirtual 191, 3), (1235, .istore 6, 2), (1237, .goto 307, 3), (1240, .aload_n 1, 1), (1241, .aload_n 0, 1)] (cL_law.data.toList.drop 1219) 1219 = true := by decide +kernel
def dc_cL_law_dL_law_1219_48 := zw_16 db_cL_law_dL_law_1219_48
def dL_law_1219 := dc_cL_law_dL_law_1219_48.1
def dL_law_1220 := dc_cL_law_dL_law_1219_48.2.1
def dL_law_1221 := dc_cL_law_dL_law_1219_48.2.2.1
def dL_law_1223 := dc_cL_law_dL_law_1219_48.2.2.2.1
def dL_law_1224 := dc_cL_law_dL_law_1219_48.2.2.2.2.1
def dL_law_1225 := dc_cL_law_dL_law_1219_48.2.2.2.2.2.1
def dL_law_1226 := dc_cL_law_dL_law_1219_48.2.2.2.2.2.2.1
def dL_law_1227 := dc_cL_law_dL_law_1219_48.2.2.2.2.2.2.2.1
def dL_law_1229 := dc_cL_law_dL_law_1219_48.2.2.2.2.2.2.2.2.1
def dL_law_1230 := dc_cL_law_dL_law_1219_48.2.2.2.2.2.2.2.2.2.1
def dL_law_1231 := dc_cL_law_dL_law_1219_48.2.2.2.2.2.2.2.2.2.2.1
def dL_law_1232 := dc_cL_law_dL_law_1219_48.2.2.2.2.2.2.2.2.2.2.2.1
def dL_law_1235 := dc_cL_law_dL_law_1219_48.2.2.2.2.2.2.2.2.2.2.2.2.1
def dL_law_1237 := dc_cL_law_dL_law_1219_48.2.2.2.2.2.2.2.2.2.2.2.2.2.1
def dL_law_1240 := dc_cL_law_dL_law_1219_48.2.2.2.2.2.2.2.2.2.2.2.2.2.2.1
def dL_law_1241 := dc_cL_law_dL_law_1219_48.2.2.2.2.2.2.2.2.2.2.2.2.2.2.2
set_option maxRecDepth 100000 in
theorem db_cL_law_dL_law_1242_49 : zw [(1242, .iload 4, 2), (1244, .iconst 1, 1), (1245, .iadd, 1), (1246, .iaload, 1), (1247, .aload_n 0, 1), (1248, .iload 4, 2), (1250, .iconst 2, 1), (1251, .iadd, 1), (1252, .iaload, 1), (1253, .aload_n 3, 1), (1254, .invokestatic 192, 3), (1257, .istore 5, 2), (1259, .aload_n 2, 1), (1260, .aload_n 0, 1), (1261, .iload 4, 2), (1263, .iconst 1, 1)] (cL_law.data.toList.drop 1242) 1242 = true := by decide +kernel
def dc_cL_law_dL_law_1242_49 := zw_16 db_cL_law_dL_law_1242_49
def dL_law_1242 := dc_cL_law_dL_law_1242_49.1
def dL_law_1244 := dc_cL_law_dL_law_1242_49.2.1
def dL_law_1245 := dc_cL_law_dL_law_1242_49.2.2.1
def dL_law_1246 := dc_cL_law_dL_law_1242_49.2.2.2.1
def dL_law_1247 := dc_cL_law_dL_law_1242_49.2.2.2.2.1
def dL_law_1248 := dc_cL_law_dL_law_1242_49.2.2.2.2.2.1
def dL_law_1250 := dc_cL_law_dL_law_1242_49.2.2.2.2.2.2.1
def dL_law_1251 := dc_cL_law_dL_law_1242_49.2.2.2.2.2.2.2.1
def dL_law_1252 := dc_cL_law_dL_law_1242_49.2.2.2.2.2.2.2.2.1
def dL_law_1253 := dc_cL_law_dL_law_1242_49.2.2.2.2.2.2.2.2.2.1
def dL_law_1254 := dc_cL_law_dL_law_1242_49.2.2.2.2.2.2.2.2.2.2.1
def dL_law_1257 := dc_cL_law_dL_law_1242_49.2.2.2.2.2.2.2.2.2.2.2.1
def dL_law_1259 := dc_cL_law_dL_law_1242_49.2.2.2.2.2.2.2.2.2.2.2.2.1
def dL_law_1260 := dc_cL_law_dL_law_1242_49.2.2.2.2.2.2.2.2.2.2.2.2.2.1
def dL_law_1261 := dc_cL_law_dL_law_1242_49.2.2.2.2.2.2.2.2.2.2.2.2.2.2.1
def dL_law_1263 := dc_cL_law_dL_law_1242_49.2.2.2.2.2.2.2.2.2.2.2.2.2.2.2
set_option maxRecDepth 100000 in
theorem db_cL_law_dL_law_1264_50 : zw [(1264, .iadd, 1), (1265, .iaload, 1), (1266, .aload_n 0, 1), (1267, .iload 4, 2), (1269, .iconst 2, 1), (1270, .iadd, 1), (1271, .iaload, 1), (1272, .invokevirtual 194, 3), (1275, .astore 6, 2), (1277, .goto 267, 3), (1280, .aload_n 1, 1), (1281, .aload_n 0, 1), (1282, .iload 4, 2), (1284, .iconst 1, 1), (1285, .iadd, 1), (1286, .iaload, 1)] (cL_law.data.toList.drop 1264) 1264 = true := by decide +kernel
def dc_cL_law_dL_law_1264_50 := zw_16 db_cL_law_dL_law_1264_50
def dL_law_1264 := dc_cL_law_dL_law_1264_50.1
def dL_law_1265 := dc_cL_law_dL_law_1264_50.2.1
def dL_law_1266 := dc_cL_law_dL_law_1264_50.2.2.1
def dL_law_1267 := dc_cL_law_dL_law_1264_50.2.2.2.1
def dL_law_1269 := dc_cL_law_dL_law_1264_50.2.2.2.2.1
def dL_law_1270 := dc_cL_law_dL_law_1264_50.2.2.2.2.2.1
def dL_law_1271 := dc_cL_law_dL_law_1264_50.2.2.2.2.2.2.1
def dL_law_1272 := dc_cL_law_dL_law_1264_50.2.2.2.2.2.2.2.1
def dL_law_1275 := dc_cL_law_dL_law_1264_50.2.2.2.2.2.2.2.2.1
def dL_law_1277 := dc_cL_law_dL_law_1264_50.2.2.2.2.2.2.2.2.2.1
def dL_law_1280 := dc_cL_law_dL_law_1264_50.2.2.2.2.2.2.2.2.2.2.1
def dL_law_1281 := dc_cL_law_dL_law_1264_50.2.2.2.2.2.2.2.2.2.2.2.1
def dL_law_1282 := dc_cL_law_dL_law_1264_50.2.2.2.2.2.2.2.2.2.2.2.2.1
def dL_law_1284 := dc_cL_law_dL_law_1264_50.2.2.2.2.2.2.2.2.2.2.2.2.2.1
def dL_law_1285 := dc_cL_law_dL_law_1264_50.2.2.2.2.2.2.2.2.2.2.2.2.2.2.1
def dL_law_1286 := dc_cL_law_dL_law_1264_50.2.2.2.2.2.2.2.2.2.2.2.2.2.2.2
set_option maxRecDepth 100000 in
theorem db_cL_law_dL_law_1287_51 : zw [(1287, .aload_n 0, 1), (1288, .iload 4, 2), (1290, .iconst 2, 1), (1291, .iadd, 1), (1292, .iaload, 1), (1293, .aload_n 0, 1), (1294, .iload 4, 2), (1296, .iconst 3, 1), (1297, .iadd, 1), (1298, .iaload, 1), (1299, .aload_n 3, 1), (1300, .invokestatic 195, 3), (1303, .istore 5, 2), (1305, .aload_n 2, 1), (1306, .aload_n 0, 1), (1307, .iload 4, 2)] (cL_law.data.toList.drop 1287) 1287 = true := by decide +kernel
def dc_cL_law_dL_law_1287_51 := zw_16 db_cL_law_dL_law_1287_51
def dL_law_1287 := dc_cL_law_dL_law_1287_51.1
def dL_law_1288 := dc_cL_law_dL_law_1287_51.2.1
def dL_law_1290 := dc_cL_law_dL_law_1287_51.2.2.1
def dL_law_1291 := dc_cL_law_dL_law_1287_51.2.2.2.1
def dL_law_1292 := dc_cL_law_dL_law_1287_51.2.2.2.2.1
def dL_law_1293 := dc_cL_law_dL_law_1287_51.2.2.2.2.2.1
def dL_law_1294 := dc_cL_law_dL_law_1287_51.2.2.2.2.2.2.1
def dL_law_1296 := dc_cL_law_dL_law_1287_51.2.2.2.2.2.2.2.1
def dL_law_1297 := dc_cL_law_dL_law_1287_51.2.2.2.2.2.2.2.2.1
def dL_law_1298 := dc_cL_law_dL_law_1287_51.2.2.2.2.2.2.2.2.2.1
def dL_law_1299 := dc_cL_law_dL_law_1287_51.2.2.2.2.2.2.2.2.2.2.1
def dL_law_1300 := dc_cL_law_dL_law_1287_51.2.2.2.2.2.2.2.2.2.2.2.1
def dL_law_1303 := dc_cL_law_dL_law_1287_51.2.2.2.2.2.2.2.2.2.2.2.2.1
def dL_law_1305 := dc_cL_law_dL_law_1287_51.2.2.2.2.2.2.2.2.2.2.2.2.2.1
def dL_law_1306 := dc_cL_law_dL_law_1287_51.2.2.2.2.2.2.2.2.2.2.2.2.2.2.1
def dL_law_1307 := dc_cL_law_dL_law_1287_51.2.2.2.2.2.2.2.2.2.2.2.2.2.2.2
set_option maxRecDepth 100000 in
theorem db_cL_law_dL_law_1309_52 : zw [(1309, .iconst 1, 1), (1310, .iadd, 1), (1311, .iaload, 1), (1312, .aload_n 0, 1), (1313, .iload 4, 2), (1315, .iconst 2, 1), (1316, .iadd, 1), (1317, .iaload, 1), (1318, .aload_n 0, 1), (1319, .iload 4, 2), (1321, .iconst 3, 1), (1322, .iadd, 1), (1323, .iaload, 1), (1324, .invokevirtual 197, 3), (1327, .istore 6, 2), (1329, .goto 215, 3)] (cL_law.data.toList.drop 1309) 1309 = true := by decide +kernel
def dc_cL_law_dL_law_1309_52 := zw_16 db_cL_law_dL_law_1309_52
def dL_law_1309 := dc_cL_law_dL_law_1309_52.1
def dL_law_1310 := dc_cL_law_dL_law_1309_52.2.1
def dL_law_1311 := dc_cL_law_dL_law_1309_52.2.2.1
def dL_law_1312 := dc_cL_law_dL_law_1309_52.2.2.2.1
def dL_law_1313 := dc_cL_law_dL_law_1309_52.2.2.2.2.1
def dL_law_1315 := dc_cL_law_dL_law_1309_52.2.2.2.2.2.1
def dL_law_1316 := dc_cL_law_dL_law_1309_52.2.2.2.2.2.2.1
def dL_law_1317 := dc_cL_law_dL_law_1309_52.2.2.2.2.2.2.2.1
def dL_law_1318 := dc_cL_law_dL_law_1309_52.2.2.2.2.2.2.2.2.1
def dL_law_1319 := dc_cL_law_dL_law_1309_52.2.2.2.2.2.2.2.2.2.1
def dL_law_1321 := dc_cL_law_dL_law_1309_52.2.2.2.2.2.2.2.2.2.2.1
def dL_law_1322 := dc_cL_law_dL_law_1309_52.2.2.2.2.2.2.2.2.2.2.2.1
def dL_law_1323 := dc_cL_law_dL_law_1309_52.2.2.2.2.2.2.2.2.2.2.2.2.1
def dL_law_1324 := dc_cL_law_dL_law_1309_52.2.2.2.2.2.2.2.2.2.2.2.2.2.1
def dL_law_1327 := dc_cL_law_dL_law_1309_52.2.2.2.2.2.2.2.2.2.2.2.2.2.2.1
def dL_law_1329 := dc_cL_law_dL_law_1309_52.2.2.2.2.2.2.2.2.2.2.2.2.2.2.2
set_option maxRecDepth 100000 in
theorem db_cL_law_dL_law_1332_53 : zw [(1332, .aload_n 1, 1), (1333, .aload_n 0, 1), (1334, .iload 4, 2), (1336, .iconst 1, 1), (1337, .iadd, 1), (1338, .iaload, 1), (1339, .aload_n 0, 1), (1340, .iload 4, 2), (1342, .iconst 2, 1), (1343, .iadd, 1), (1344, .iaload, 1), (1345, .aload_n 3, 1), (1346, .invokestatic 198, 3), (1349, .istore 5, 2), (1351, .aload_n 2, 1), (1352, .aload_n 0, 1)] (cL_law.data.toList.drop 1332) 1332 = true := by decide +kernel
def dc_cL_law_dL_law_1332_53 := zw_16 db_cL_law_dL_law_1332_53
def dL_law_1332 := dc_cL_law_dL_law_1332_53.1
def dL_law_1333 := dc_cL_law_dL_law_1332_53.2.1
def dL_law_1334 := dc_cL_law_dL_law_1332_53.2.2.1
def dL_law_1336 := dc_cL_law_dL_law_1332_53.2.2.2.1
def dL_law_1337 := dc_cL_law_dL_law_1332_53.2.2.2.2.1
def dL_law_1338 := dc_cL_law_dL_law_1332_53.2.2.2.2.2.1
def dL_law_1339 := dc_cL_law_dL_law_1332_53.2.2.2.2.2.2.1
def dL_law_1340 := dc_cL_law_dL_law_1332_53.2.2.2.2.2.2.2.1
def dL_law_1342 := dc_cL_law_dL_law_1332_53.2.2.2.2.2.2.2.2.1
def dL_law_1343 := dc_cL_law_dL_law_1332_53.2.2.2.2.2.2.2.2.2.1
def dL_law_1344 := dc_cL_law_dL_law_1332_53.2.2.2.2.2.2.2.2.2.2.1
def dL_law_1345 := dc_cL_law_dL_law_1332_53.2.2.2.2.2.2.2.2.2.2.2.1
def dL_law_1346 := dc_cL_law_dL_law_1332_53.2.2.2.2.2.2.2.2.2.2.2.2.1
def dL_law_1349 := dc_cL_law_dL_law_1332_53.2.2.2.2.2.2.2.2.2.2.2.2.2.1
def dL_law_1351 := dc_cL_law_dL_law_1332_53.2.2.2.2.2.2.2.2.2.2.2.2.2.2.1
def dL_law_1352 := dc_cL_law_dL_law_1332_53.2.2.2.2.2.2.2.2.2.2.2.2.2.2.2
set_option maxRecDepth 100000 in
theorem db_cL_law_dL_law_1353_54 : zw [(1353, .iload 4, 2), (1355, .iconst 1, 1), (1356, .iadd, 1), (1357, .iaload, 1), (1358, .aload_n 0, 1), (1359, .iload 4, 2), (1361, .iconst 2, 1), (1362, .iadd, 1), (1363, .iaload, 1), (1364, .invokevirtual 200, 3), (1367, .astore 6, 2), (1369, .goto 175, 3), (1372, .aload_n 1, 1), (1373, .aload_n 0, 1), (1374, .iload 4, 2), (1376, .iconst 1, 1)] (cL_law.data.toList.drop 1353) 1353 = true := by decide +kernel
def dc_cL_law_dL_law_1353_54 := zw_16 db_cL_law_dL_law_1353_54
def dL_law_1353 := dc_cL_law_dL_law_1353_54.1
def dL_law_1355 := dc_cL_law_dL_law_1353_54.2.1
def dL_law_1356 := dc_cL_law_dL_law_1353_54.2.2.1
def dL_law_1357 := dc_cL_law_dL_law_1353_54.2.2.2.1
def dL_law_1358 := dc_cL_law_dL_law_1353_54.2.2.2.2.1
def dL_law_1359 := dc_cL_law_dL_law_1353_54.2.2.2.2.2.1
def dL_law_1361 := dc_cL_law_dL_law_1353_54.2.2.2.2.2.2.1
def dL_law_1362 := dc_cL_law_dL_law_1353_54.2.2.2.2.2.2.2.1
def dL_law_1363 := dc_cL_law_dL_law_1353_54.2.2.2.2.2.2.2.2.1
def dL_law_1364 := dc_cL_law_dL_law_1353_54.2.2.2.2.2.2.2.2.2.1
def dL_law_1367 := dc_cL_law_dL_law_1353_54.2.2.2.2.2.2.2.2.2.2.1
def dL_law_1369 := dc_cL_law_dL_law_1353_54.2.2.2.2.2.2.2.2.2.2.2.1
def dL_law_1372 := dc_cL_law_dL_law_1353_54.2.2.2.2.2.2.2.2.2.2.2.2.1
def dL_law_1373 := dc_cL_law_dL_law_1353_54.2.2.2.2.2.2.2.2.2.2.2.2.2.1
def dL_law_1374 := dc_cL_law_dL_law_1353_54.2.2.2.2.2.2.2.2.2.2.2.2.2.2.1
def dL_law_1376 := dc_cL_law_dL_law_1353_54.2.2.2.2.2.2.2.2.2.2.2.2.2.2.2
set_option maxRecDepth 100000 in
theorem db_cL_law_dL_law_1377_55 : zw [(1377, .iadd, 1), (1378, .iaload, 1), (1379, .aload_n 0, 1), (1380, .iload 4, 2), (1382, .iconst 2, 1), (1383, .iadd, 1), (1384, .iaload, 1), (1385, .aload_n 3, 1), (1386, .invokestatic 201, 3), (1389, .istore 5, 2), (1391, .aload_n 2, 1), (1392, .aload_n 0, 1), (1393, .iload 4, 2), (1395, .iconst 1, 1), (1396, .iadd, 1), (1397, .iaload, 1)] (cL_law.data.toList.drop 1377) 1377 = true := by decide +kernel
def dc_cL_law_dL_law_1377_55 := zw_16 db_cL_law_dL_law_1377_55
def dL_law_1377 := dc_cL_law_dL_law_1377_55.1
def dL_law_1378 := dc_cL_law_dL_law_1377_55.2.1
def dL_law_1379 := dc_cL_law_dL_law_1377_55.2.2.1
def dL_law_1380 := dc_cL_law_dL_law_1377_55.2.2.2.1
def dL_law_1382 := dc_cL_law_dL_law_1377_55.2.2.2.2.1
def dL_law_1383 := dc_cL_law_dL_law_1377_55.2.2.2.2.2.1
def dL_law_1384 := dc_cL_law_dL_law_1377_55.2.2.2.2.2.2.1
def dL_law_1385 := dc_cL_law_dL_law_1377_55.2.2.2.2.2.2.2.1
def dL_law_1386 := dc_cL_law_dL_law_1377_55.2.2.2.2.2.2.2.2.1
def dL_law_1389 := dc_cL_law_dL_law_1377_55.2.2.2.2.2.2.2.2.2.1
def dL_law_1391 := dc_cL_law_dL_law_1377_55.2.2.2.2.2.2.2.2.2.2.1
def dL_law_1392 := dc_cL_law_dL_law_1377_55.2.2.2.2.2.2.2.2.2.2.2.1
def dL_law_1393 := dc_cL_law_dL_law_1377_55.2.2.2.2.2.2.2.2.2.2.2.2.1
def dL_law_1395 := dc_cL_law_dL_law_1377_55.2.2.2.2.2.2.2.2.2.2.2.2.2.1
def dL_law_1396 := dc_cL_law_dL_law_1377_55.2.2.2.2.2.2.2.2.2.2.2.2.2.2.1
def dL_law_1397 := dc_cL_law_dL_law_1377_55.2.2.2.2.2.2.2.2.2.2.2.2.2.2.2
set_option maxRecDepth 100000 in
theorem db_cL_law_dL_law_1398_56 : zw [(1398, .aload_n 0, 1), (1399, .iload 4, 2), (1401, .iconst 2, 1), (1402, .iadd, 1), (1403, .iaload, 1), (1404, .invokevirtual 203, 3), (1407, .istore 6, 2), (1409, .goto 135, 3), (1412, .aload_n 1, 1), (1413, .aload_n 0, 1), (1414, .iload 4, 2), (1416, .iconst 1, 1), (1417, .iadd, 1), (1418, .iaload, 1), (1419, .aload_n 0, 1), (1420, .iload 4, 2)] (cL_law.data.toList.drop 1398) 1398 = true := by decide +kernel
def dc_cL_law_dL_law_1398_56 := zw_16 db_cL_law_dL_law_1398_56
def dL_law_1398 := dc_cL_law_dL_law_1398_56.1
def dL_law_1399 := dc_cL_law_dL_law_1398_56.2.1
def dL_law_1401 := dc_cL_law_dL_law_1398_56.2.2.1
def dL_law_1402 := dc_cL_law_dL_law_1398_56.2.2.2.1
def dL_law_1403 := dc_cL_law_dL_law_1398_56.2.2.2.2.1
def dL_law_1404 := dc_cL_law_dL_law_1398_56.2.2.2.2.2.1
def dL_law_1407 := dc_cL_law_dL_law_1398_56.2.2.2.2.2.2.1
def dL_law_1409 := dc_cL_law_dL_law_1398_56.2.2.2.2.2.2.2.1
def dL_law_1412 := dc_cL_law_dL_law_1398_56.2.2.2.2.2.2.2.2.1
def dL_law_1413 := dc_cL_law_dL_law_1398_56.2.2.2.2.2.2.2.2.2.1
def dL_law_1414 := dc_cL_law_dL_law_1398_56.2.2.2.2.2.2.2.2.2.2.1
def dL_law_1416 := dc_cL_law_dL_law_1398_56.2.2.2.2.2.2.2.2.2.2.2.1
def dL_law_1417 := dc_cL_law_dL_law_1398_56.2.2.2.2.2.2.2.2.2.2.2.2.1
def dL_law_1418 := dc_cL_law_dL_law_1398_56.2.2.2.2.2.2.2.2.2.2.2.2.2.1
def dL_law_1419 := dc_cL_law_dL_law_1398_56.2.2.2.2.2.2.2.2.2.2.2.2.2.2.1
def dL_law_1420 := dc_cL_law_dL_law_1398_56.2.2.2.2.2.2.2.2.2.2.2.2.2.2.2
set_option maxRecDepth 100000 in
theorem db_cL_law_dL_law_1422_57 : zw [(1422, .iconst 2, 1), (1423, .iadd, 1), (1424, .iaload, 1), (1425, .aload_n 0, 1), (1426, .iload 4, 2), (1428, .iconst 3, 1), (1429, .iadd, 1), (1430, .iaload, 1), (1431, .aload_n 0, 1), (1432, .iload 4, 2), (1434, .iconst 4, 1), (1435, .iadd, 1), (1436, .iaload, 1), (1437, .aload_n 3, 1), (1438, .invokestatic 204, 3), (1441, .istore 5, 2)] (cL_law.data.toList.drop 1422) 1422 = true := by decide +kernel
def dc_cL_law_dL_law_1422_57 := zw_16 db_cL_law_dL_law_1422_57
def dL_law_1422 := dc_cL_law_dL_law_1422_57.1
def dL_law_1423 := dc_cL_law_dL_law_1422_57.2.1
def dL_law_1424 := dc_cL_law_dL_law_1422_57.2.2.1
def dL_law_1425 := dc_cL_law_dL_law_1422_57.2.2.2.1
def dL_law_1426 := dc_cL_law_dL_law_1422_57.2.2.2.2.1
def dL_law_1428 := dc_cL_law_dL_law_1422_57.2.2.2.2.2.1
def dL_law_1429 := dc_cL_law_dL_law_1422_57.2.2.2.2.2.2.1
def dL_law_1430 := dc_cL_law_dL_law_1422_57.2.2.2.2.2.2.2.1
def dL_law_1431 := dc_cL_law_dL_law_1422_57.2.2.2.2.2.2.2.2.1
def dL_law_1432 := dc_cL_law_dL_law_1422_57.2.2.2.2.2.2.2.2.2.1
def dL_law_1434 := dc_cL_law_dL_law_1422_57.2.2.2.2.2.2.2.2.2.2.1
def dL_law_1435 := dc_cL_law_dL_law_1422_57.2.2.2.2.2.2.2.2.2.2.2.1
def dL_law_1436 := dc_cL_law_dL_law_1422_57.2.2.2.2.2.2.2.2.2.2.2.2.1
def dL_law_1437 := dc_cL_law_dL_law_1422_57.2.2.2.2.2.2.2.2.2.2.2.2.2.1
def dL_law_1438 := dc_cL_law_dL_law_1422_57.2.2.2.2.2.2.2.2.2.2.2.2.2.2.1
def dL_law_1441 := dc_cL_law_dL_law_1422_57.2.2.2.2.2.2.2.2.2.2.2.2.2.2.2
set_option maxRecDepth 100000 in
theorem db_cL_law_dL_law_1443_58 : zw [(1443, .aload_n 2, 1), (1444, .aload_n 0, 1), (1445, .iload 4, 2), (1447, .iconst 1, 1), (1448, .iadd, 1), (1449, .iaload, 1), (1450, .aload_n 0, 1), (1451, .iload 4, 2), (1453, .iconst 2, 1), (1454, .iadd, 1), (1455, .iaload, 1), (1456, .aload_n 0, 1), (1457, .iload 4, 2), (1459, .iconst 3, 1), (1460, .iadd, 1), (1461, .iaload, 1)] (cL_law.data.toList.drop 1443) 1443 = true := by decide +kernel
def dc_cL_law_dL_law_1443_58 := zw_16 db_cL_law_dL_law_1443_58
def dL_law_1443 := dc_cL_law_dL_law_1443_58.1
def dL_law_1444 := dc_cL_law_dL_law_1443_58.2.1
def dL_law_1445 := dc_cL_law_dL_law_1443_58.2.2.1
def dL_law_1447 := dc_cL_law_dL_law_1443_58.2.2.2.1
def dL_law_1448 := dc_cL_law_dL_law_1443_58.2.2.2.2.1
def dL_law_1449 := dc_cL_law_dL_law_1443_58.2.2.2.2.2.1
def dL_law_1450 := dc_cL_law_dL_law_1443_58.2.2.2.2.2.2.1
def dL_law_1451 := dc_cL_law_dL_law_1443_58.2.2.2.2.2.2.2.1
def dL_law_1453 := dc_cL_law_dL_law_1443_58.2.2.2.2.2.2.2.2.1
def dL_law_1454 := dc_cL_law_dL_law_1443_58.2.2.2.2.2.2.2.2.2.1
def dL_law_1455 := dc_cL_law_dL_law_1443_58.2.2.2.2.2.2.2.2.2.2.1
def dL_law_1456 := dc_cL_law_dL_law_1443_58.2.2.2.2.2.2.2.2.2.2.2.1
def dL_law_1457 := dc_cL_law_dL_law_1443_58.2.2.2.2.2.2.2.2.2.2.2.2.1
def dL_law_1459 := dc_cL_law_dL_law_1443_58.2.2.2.2.2.2.2.2.2.2.2.2.2.1
def dL_law_1460 := dc_cL_law_dL_law_1443_58.2.2.2.2.2.2.2.2.2.2.2.2.2.2.1
def dL_law_1461 := dc_cL_law_dL_law_1443_58.2.2.2.2.2.2.2.2.2.2.2.2.2.2.2
set_option maxRecDepth 100000 in
theorem db_cL_law_dL_law_1462_59 : zw [(1462, .aload_n 0, 1), (1463, .iload 4, 2), (1465, .iconst 4, 1), (1466, .iadd, 1), (1467, .iaload, 1), (1468, .invokevirtual 206, 3), (1471, .istore 6, 2), (1473, .goto 71, 3), (1476, .aload_n 1, 1), (1477, .aload_n 0, 1), (1478, .iload 4, 2), (1480, .iconst 1, 1), (1481, .iadd, 1), (1482, .iaload, 1), (1483, .aload_n 3, 1), (1484, .invokestatic 207, 3)] (cL_law.data.toList.drop 1462) 1462 = true := by decide +kernel
def dc_cL_law_dL_law_1462_59 := zw_16 db_cL_law_dL_law_1462_59
def dL_law_1462 := dc_cL_law_dL_law_1462_59.1
def dL_law_1463 := dc_cL_law_dL_law_1462_59.2.1
def dL_law_1465 := dc_cL_law_dL_law_1462_59.2.2.1
def dL_law_1466 := dc_cL_law_dL_law_1462_59.2.2.2.1
def dL_law_1467 := dc_cL_law_dL_law_1462_59.2.2.2.2.1
def dL_law_1468 := dc_cL_law_dL_law_1462_59.2.2.2.2.2.1
def dL_law_1471 := dc_cL_law_dL_law_1462_59.2.2.2.2.2.2.1
def dL_law_1473 := dc_cL_law_dL_law_1462_59.2.2.2.2.2.2.2.1
def dL_law_1476 := dc_cL_law_dL_law_1462_59.2.2.2.2.2.2.2.2.1
def dL_law_1477 := dc_cL_law_dL_law_1462_59.2.2.2.2.2.2.2.2.2.1
def dL_law_1478 := dc_cL_law_dL_law_1462_59.2.2.2.2.2.2.2.2.2.2.1
def dL_law_1480 := dc_cL_law_dL_law_1462_59.2.2.2.2.2.2.2.2.2.2.2.1
def dL_law_1481 := dc_cL_law_dL_law_1462_59.2.2.2.2.2.2.2.2.2.2.2.2.1
def dL_law_1482 := dc_cL_law_dL_law_1462_59.2.2.2.2.2.2.2.2.2.2.2.2.2.1
def dL_law_1483 := dc_cL_law_dL_law_1462_59.2.2.2.2.2.2.2.2.2.2.2.2.2.2.1
def dL_law_1484 := dc_cL_law_dL_law_1462_59.2.2.2.2.2.2.2.2.2.2.2.2.2.2.2
set_option maxRecDepth 100000 in
theorem db_cL_law_dL_law_1487_60 : zw [(1487, .istore 5, 2), (1489, .aload_n 2, 1), (1490, .aload_n 0, 1), (1491, .iload 4, 2), (1493, .iconst 1, 1), (1494, .iadd, 1), (1495, .iaload, 1), (1496, .invokevirtual 209, 3), (1499, .istore 6, 2), (1501, .goto 43, 3), (1504, .aload_n 1, 1), (1505, .invokevirtual 210, 3), (1508, .pop, 1), (1509, .aload_n 2, 1), (1510, .invokevirtual 214, 3), (1513, .pop, 1)] (cL_law.data.toList.drop 1487) 1487 = true := by decide +kernel
def dc_cL_law_dL_law_1487_60 := zw_16 db_cL_law_dL_law_1487_60
def dL_law_1487 := dc_cL_law_dL_law_1487_60.1
def dL_law_1489 := dc_cL_law_dL_law_1487_60.2.1
def dL_law_1490 := dc_cL_law_dL_law_1487_60.2.2.1
def dL_law_1491 := dc_cL_law_dL_law_1487_60.2.2.2.1
def dL_law_1493 := dc_cL_law_dL_law_1487_60.2.2.2.2.1
def dL_law_1494 := dc_cL_law_dL_law_1487_60.2.2.2.2.2.1
def dL_law_1495 := dc_cL_law_dL_law_1487_60.2.2.2.2.2.2.1
def dL_law_1496 := dc_cL_law_dL_law_1487_60.2.2.2.2.2.2.2.1
def dL_law_1499 := dc_cL_law_dL_law_1487_60.2.2.2.2.2.2.2.2.1
def dL_law_1501 := dc_cL_law_dL_law_1487_60.2.2.2.2.2.2.2.2.2.1
def dL_law_1504 := dc_cL_law_dL_law_1487_60.2.2.2.2.2.2.2.2.2.2.1
def dL_law_1505 := dc_cL_law_dL_law_1487_60.2.2.2.2.2.2.2.2.2.2.2.1
def dL_law_1508 := dc_cL_law_dL_law_1487_60.2.2.2.2.2.2.2.2.2.2.2.2.1
def dL_law_1509 := dc_cL_law_dL_law_1487_60.2.2.2.2.2.2.2.2.2.2.2.2.2.1
def dL_law_1510 := dc_cL_law_dL_law_1487_60.2.2.2.2.2.2.2.2.2.2.2.2.2.2.1
def dL_law_1513 := dc_cL_law_dL_law_1487_60.2.2.2.2.2.2.2.2.2.2.2.2.2.2.2
set_option maxRecDepth 100000 in
theorem db_cL_law_dL_law_1514_61 : zw [(1514, .goto 30, 3), (1517, .aload_n 1, 1), (1518, .invokevirtual 215, 3), (1521, .pop, 1), (1522, .aload_n 2, 1), (1523, .invokevirtual 219, 3), (1526, .pop, 1), (1527, .goto 17, 3), (1530, .aload_n 1, 1), (1531, .invokevirtual 220, 3), (1534, .aload_n 2, 1), (1535, .invokevirtual 224, 3), (1538, .lcmp, 1), (1539, .ifCond .eq 5, 3), (1542, .iconst 0, 1), (1543, .ireturn, 1)] (cL_law.data.toList.drop 1514) 1514 = true := by decide +kernel
def dc_cL_law_dL_law_1514_61 := zw_16 db_cL_law_dL_law_1514_61
def dL_law_1514 := dc_cL_law_dL_law_1514_61.1
def dL_law_1517 := dc_cL_law_dL_law_1514_61.2.1
def dL_law_1518 := dc_cL_law_dL_law_1514_61.2.2.1
def dL_law_1521 := dc_cL_law_dL_law_1514_61.2.2.2.1
def dL_law_1522 := dc_cL_law_dL_law_1514_61.2.2.2.2.1
def dL_law_1523 := dc_cL_law_dL_law_1514_61.2.2.2.2.2.1
def dL_law_1526 := dc_cL_law_dL_law_1514_61.2.2.2.2.2.2.1
def dL_law_1527 := dc_cL_law_dL_law_1514_61.2.2.2.2.2.2.2.1
def dL_law_1530 := dc_cL_law_dL_law_1514_61.2.2.2.2.2.2.2.2.1
def dL_law_1531 := dc_cL_law_dL_law_1514_61.2.2.2.2.2.2.2.2.2.1
def dL_law_1534 := dc_cL_law_dL_law_1514_61.2.2.2.2.2.2.2.2.2.2.1
def dL_law_1535 := dc_cL_law_dL_law_1514_61.2.2.2.2.2.2.2.2.2.2.2.1
def dL_law_1538 := dc_cL_law_dL_law_1514_61.2.2.2.2.2.2.2.2.2.2.2.2.1
def dL_law_1539 := dc_cL_law_dL_law_1514_61.2.2.2.2.2.2.2.2.2.2.2.2.2.1
def dL_law_1542 := dc_cL_law_dL_law_1514_61.2.2.2.2.2.2.2.2.2.2.2.2.2.2.1
def dL_law_1543 := dc_cL_law_dL_law_1514_61.2.2.2.2.2.2.2.2.2.2.2.2.2.2.2
set_option maxRecDepth 100000 in
theorem db_cL_law_dL_law_1544_62 : zw [(1544, .iinc 4 6, 3), (1547, .goto (-1520), 3), (1550, .iconst 1, 1), (1551, .ireturn, 1)] (cL_law.data.toList.drop 1544) 1544 = true := by decide +kernel
def dc_cL_law_dL_law_1544_62 := zw_4 db_cL_law_dL_law_1544_62
def dL_law_1544 := dc_cL_law_dL_law_1544_62.1
def dL_law_1547 := dc_cL_law_dL_law_1544_62.2.1
def dL_law_1550 := dc_cL_law_dL_law_1544_62.2.2.1
def dL_law_1551 := dc_cL_law_dL_law_1544_62.2.2.2
theorem vd_27 : (yL_begin : MethodName).cls ≠ "java/lang/invoke/MethodHandle" ∧ (yL_begin : MethodName).cls ≠ "java/lang/invoke/VarHandle" ∧ (parseMethodDescriptor (yL_begin : MethodName).desc).map (fun d => d.parameters.length) = some 4 := by decide +kernel
theorem vd_28 : (yX11_begin : MethodName).cls ≠ "java/lang/invoke/MethodHandle" ∧ (yX11_begin : MethodName).cls ≠ "java/lang/invoke/VarHandle" ∧ (parseMethodDescriptor (yX11_begin : MethodName).desc).map (fun d => d.parameters.length) = some 2 := by decide +kernel
theorem vd_29 : (yL_arrow : MethodName).cls ≠ "java/lang/invoke/MethodHandle" ∧ (yL_arrow : MethodName).cls ≠ "java/lang/invoke/VarHandle" ∧ (parseMethodDescriptor (yL_arrow : MethodName).desc).map (fun d => d.parameters.length) = some 7 := by decide +kernel
theorem vd_30 : (yX11_arrow : MethodName).cls ≠ "java/lang/invoke/MethodHandle" ∧ (yX11_arrow : MethodName).cls ≠ "java/lang/invoke/VarHandle" ∧ (parseMethodDescriptor (yX11_arrow : MethodName).desc).map (fun d => d.parameters.length) = some 5 := by decide +kernel
theorem vd_31 : (yL_lead : MethodName).cls ≠ "java/lang/invoke/MethodHandle" ∧ (yL_lead : MethodName).cls ≠ "java/lang/invoke/VarHandle" ∧ (parseMethodDescriptor (yL_lead : MethodName).desc).map (fun d => d.parameters.length) = some 6 := by decide +kernel
theorem vd_32 : (yX11_lead : MethodName).cls ≠ "java/lang/invoke/MethodHandle" ∧ (yX11_lead : MethodName).cls ≠ "java/lang/invoke/VarHandle" ∧ (parseMethodDescriptor (yX11_lead : MethodName).desc).map (fun d => d.parameters.length) = some 4 := by decide +kernel
theorem vd_33 : (yL_mark : MethodName).cls ≠ "java/lang/invoke/MethodHandle" ∧ (yL_mark : MethodName).cls ≠ "java/lang/invoke/VarHandle" ∧ (parseMethodDescriptor (yL_mark : MethodName).desc).map (fun d => d.parameters.length) = some 6 := by decide +kernel
theorem vd_34 : (yX11_mark : MethodName).cls ≠ "java/lang/invoke/MethodHandle" ∧ (yX11_mark : MethodName).cls ≠ "java/lang/invoke/VarHandle" ∧ (parseMethodDescriptor (yX11_mark : MethodName).desc).map (fun d => d.parameters.length) = some 4 := by decide +kernel
theorem vd_35 : (yL_sow : MethodName).cls ≠ "java/lang/invoke/MethodHandle" ∧ (yL_sow : MethodName).cls ≠ "java/lang/invoke/VarHandle" ∧ (parseMethodDescriptor (yL_sow : MethodName).desc).map (fun d => d.parameters.length) = some 6 := by decide +kernel
theorem vd_36 : (yX11_sow : MethodName).cls ≠ "java/lang/invoke/MethodHandle" ∧ (yX11_sow : MethodName).cls ≠ "java/lang/invoke/VarHandle" ∧ (parseMethodDescriptor (yX11_sow : MethodName).desc).map (fun d => d.parameters.length) = some 4 := by decide +kernel
theorem vd_37 : (yL_copy : MethodName).cls ≠ "java/lang/invoke/MethodHandle" ∧ (yL_copy : MethodName).cls ≠ "java/lang/invoke/VarHandle" ∧ (parseMethodDescriptor (yL_copy : MethodName).desc).map (fun d => d.parameters.length) = some 4 := by decide +kernel
theorem vd_38 : (yX11_copy : MethodName).cls ≠ "java/lang/invoke/MethodHandle" ∧ (yX11_copy : MethodName).cls ≠ "java/lang/invoke/VarHandle" ∧ (parseMethodDescriptor (yX11_copy : MethodName).desc).map (fun d => d.parameters.length) = some 2 := by decide +kernel
theorem vd_39 : (yL_swap : MethodName).cls ≠ "java/lang/invoke/MethodHandle" ∧ (yL_swap : MethodName).cls ≠ "java/lang/invoke/VarHandle" ∧ (parseMethodDescriptor (yL_swap : MethodName).desc).map (fun d => d.parameters.length) = some 4 := by decide +kernel
theorem vd_40 : (yX11_swap : MethodName).cls ≠ "java/lang/invoke/MethodHandle" ∧ (yX11_swap : MethodName).cls ≠ "java/lang/invoke/VarHandle" ∧ (parseMethodDescriptor (yX11_swap : MethodName).desc).map (fun d => d.parameters.length) = some 2 := by decide +kernel
theorem vd_41 : (yL_turn : MethodName).cls ≠ "java/lang/invoke/MethodHandle" ∧ (yL_turn : MethodName).cls ≠ "java/lang/invoke/VarHandle" ∧ (parseMethodDescriptor (yL_turn : MethodName).desc).map (fun d => d.parameters.length) = some 3 := by decide +kernel
theorem vd_42 : (yX11_turn : MethodName).cls ≠ "java/lang/invoke/MethodHandle" ∧ (yX11_turn : MethodName).cls ≠ "java/lang/invoke/VarHandle" ∧ (parseMethodDescriptor (yX11_turn : MethodName).desc).map (fun d => d.parameters.length) = some 1 := by decide +kernel
theorem vd_43 : (yL_other : MethodName).cls ≠ "java/lang/invoke/MethodHandle" ∧ (yL_other : MethodName).cls ≠ "java/lang/invoke/VarHandle" ∧ (parseMethodDescriptor (yL_other : MethodName).desc).map (fun d => d.parameters.length) = some 3 := by decide +kernel
theorem vd_44 : (yX11_other : MethodName).cls ≠ "java/lang/invoke/MethodHandle" ∧ (yX11_other : MethodName).cls ≠ "java/lang/invoke/VarHandle" ∧ (parseMethodDescriptor (yX11_other : MethodName).desc).map (fun d => d.parameters.length) = some 1 := by decide +kernel
theorem vd_45 : (yL_grow : MethodName).cls ≠ "java/lang/invoke/MethodHandle" ∧ (yL_grow : MethodName).cls ≠ "java/lang/invoke/VarHandle" ∧ (parseMethodDescriptor (yL_grow : MethodName).desc).map (fun d => d.parameters.length) = some 3 := by decide +kernel
theorem vd_46 : (yX11_grow : MethodName).cls ≠ "java/lang/invoke/MethodHandle" ∧ (yX11_grow : MethodName).cls ≠ "java/lang/invoke/VarHandle" ∧ (parseMethodDescriptor (yX11_grow : MethodName).desc).map (fun d => d.parameters.length) = some 1 := by decide +kernel
theorem vd_47 : (yL_drop : MethodName).cls ≠ "java/lang/invoke/MethodHandle" ∧ (yL_drop : MethodName).cls ≠ "java/lang/invoke/VarHandle" ∧ (parseMethodDescriptor (yL_drop : MethodName).desc).map (fun d => d.parameters.length) = some 4 := by decide +kernel
theorem vd_48 : (yX11_drop : MethodName).cls ≠ "java/lang/invoke/MethodHandle" ∧ (yX11_drop : MethodName).cls ≠ "java/lang/invoke/VarHandle" ∧ (parseMethodDescriptor (yX11_drop : MethodName).desc).map (fun d => d.parameters.length) = some 2 := by decide +kernel
theorem vd_49 : (yL_make : MethodName).cls ≠ "java/lang/invoke/MethodHandle" ∧ (yL_make : MethodName).cls ≠ "java/lang/invoke/VarHandle" ∧ (parseMethodDescriptor (yL_make : MethodName).desc).map (fun d => d.parameters.length) = some 5 := by decide +kernel
theorem vd_50 : (yX11_make : MethodName).cls ≠ "java/lang/invoke/MethodHandle" ∧ (yX11_make : MethodName).cls ≠ "java/lang/invoke/VarHandle" ∧ (parseMethodDescriptor (yX11_make : MethodName).desc).map (fun d => d.parameters.length) = some 3 := by decide +kernel
theorem vd_51 : (yL_combine : MethodName).cls ≠ "java/lang/invoke/MethodHandle" ∧ (yL_combine : MethodName).cls ≠ "java/lang/invoke/VarHandle" ∧ (parseMethodDescriptor (yL_combine : MethodName).desc).map (fun d => d.parameters.length) = some 6 := by decide +kernel
theorem vd_52 : (yX11_combine : MethodName).cls ≠ "java/lang/invoke/MethodHandle" ∧ (yX11_combine : MethodName).cls ≠ "java/lang/invoke/VarHandle" ∧ (parseMethodDescriptor (yX11_combine : MethodName).desc).map (fun d => d.parameters.length) = some 4 := by decide +kernel
theorem vd_53 : (yL_tell : MethodName).cls ≠ "java/lang/invoke/MethodHandle" ∧ (yL_tell : MethodName).cls ≠ "java/lang/invoke/VarHandle" ∧ (parseMethodDescriptor (yL_tell : MethodName).desc).map (fun d => d.parameters.length) = some 4 := by decide +kernel
theorem vd_54 : (yX11_tell : MethodName).cls ≠ "java/lang/invoke/MethodHandle" ∧ (yX11_tell : MethodName).cls ≠ "java/lang/invoke/VarHandle" ∧ (parseMethodDescriptor (yX11_tell : MethodName).desc).map (fun d => d.parameters.length) = some 2 := by decide +kernel
theorem vd_55 : (yL_arrows : MethodName).cls ≠ "java/lang/invoke/MethodHandle" ∧ (yL_arrows : MethodName).cls ≠ "java/lang/invoke/VarHandle" ∧ (parseMethodDescriptor (yL_arrows : MethodName).desc).map (fun d => d.parameters.length) = some 5 := by decide +kernel
theorem vd_56 : (yX11_arrows : MethodName).cls ≠ "java/lang/invoke/MethodHandle" ∧ (yX11_arrows : MethodName).cls ≠ "java/lang/invoke/VarHandle" ∧ (parseMethodDescriptor (yX11_arrows : MethodName).desc).map (fun d => d.parameters.length) = some 3 := by decide +kernel
theorem vd_57 : (yL_takes : MethodName).cls ≠ "java/lang/invoke/MethodHandle" ∧ (yL_takes : MethodName).cls ≠ "java/lang/invoke/VarHandle" ∧ (parseMethodDescriptor (yL_takes : MethodName).desc).map (fun d => d.parameters.length) = some 5 := by decide +kernel
theorem vd_58 : (yX11_takes : MethodName).cls ≠ "java/lang/invoke/MethodHandle" ∧ (yX11_takes : MethodName).cls ≠ "java/lang/invoke/VarHandle" ∧ (parseMethodDescriptor (yX11_takes : MethodName).desc).map (fun d => d.parameters.length) = some 3 := by decide +kernel
theorem vd_59 : (yL_after : MethodName).cls ≠ "java/lang/invoke/MethodHandle" ∧ (yL_after : MethodName).cls ≠ "java/lang/invoke/VarHandle" ∧ (parseMethodDescriptor (yL_after : MethodName).desc).map (fun d => d.parameters.length) = some 6 := by decide +kernel
theorem vd_60 : (yX11_after : MethodName).cls ≠ "java/lang/invoke/MethodHandle" ∧ (yX11_after : MethodName).cls ≠ "java/lang/invoke/VarHandle" ∧ (parseMethodDescriptor (yX11_after : MethodName).desc).map (fun d => d.parameters.length) = some 4 := by decide +kernel
theorem vd_61 : (yL_size : MethodName).cls ≠ "java/lang/invoke/MethodHandle" ∧ (yL_size : MethodName).cls ≠ "java/lang/invoke/VarHandle" ∧ (parseMethodDescriptor (yL_size : MethodName).desc).map (fun d => d.parameters.length) = some 4 := by decide +kernel
theorem vd_62 : (yX11_size : MethodName).cls ≠ "java/lang/invoke/MethodHandle" ∧ (yX11_size : MethodName).cls ≠ "java/lang/invoke/VarHandle" ∧ (parseMethodDescriptor (yX11_size : MethodName).desc).map (fun d => d.parameters.length) = some 2 := by decide +kernel
theorem vd_63 : (yL_text : MethodName).cls ≠ "java/lang/invoke/MethodHandle" ∧ (yL_text : MethodName).cls ≠ "java/lang/invoke/VarHandle" ∧ (parseMethodDescriptor (yL_text : MethodName).desc).map (fun d => d.parameters.length) = some 4 := by decide +kernel
theorem vd_64 : (yX11_text : MethodName).cls ≠ "java/lang/invoke/MethodHandle" ∧ (yX11_text : MethodName).cls ≠ "java/lang/invoke/VarHandle" ∧ (parseMethodDescriptor (yX11_text : MethodName).desc).map (fun d => d.parameters.length) = some 2 := by decide +kernel
theorem vd_65 : (yL_kind : MethodName).cls ≠ "java/lang/invoke/MethodHandle" ∧ (yL_kind : MethodName).cls ≠ "java/lang/invoke/VarHandle" ∧ (parseMethodDescriptor (yL_kind : MethodName).desc).map (fun d => d.parameters.length) = some 3 := by decide +kernel
theorem vd_66 : (yX11_kind : MethodName).cls ≠ "java/lang/invoke/MethodHandle" ∧ (yX11_kind : MethodName).cls ≠ "java/lang/invoke/VarHandle" ∧ (parseMethodDescriptor (yX11_kind : MethodName).desc).map (fun d => d.parameters.length) = some 1 := by decide +kernel
theorem vd_67 : (yL_many : MethodName).cls ≠ "java/lang/invoke/MethodHandle" ∧ (yL_many : MethodName).cls ≠ "java/lang/invoke/VarHandle" ∧ (parseMethodDescriptor (yL_many : MethodName).desc).map (fun d => d.parameters.length) = some 5 := by decide +kernel
theorem vd_68 : (yX11_many : MethodName).cls ≠ "java/lang/invoke/MethodHandle" ∧ (yX11_many : MethodName).cls ≠ "java/lang/invoke/VarHandle" ∧ (parseMethodDescriptor (yX11_many : MethodName).desc).map (fun d => d.parameters.length) = some 3 := by decide +kernel
theorem vd_69 : (yL_word : MethodName).cls ≠ "java/lang/invoke/MethodHandle" ∧ (yL_word : MethodName).cls ≠ "java/lang/invoke/VarHandle" ∧ (parseMethodDescriptor (yL_word : MethodName).desc).map (fun d => d.parameters.length) = some 4 := by decide +kernel
theorem vd_70 : (yX11_word : MethodName).cls ≠ "java/lang/invoke/MethodHandle" ∧ (yX11_word : MethodName).cls ≠ "java/lang/invoke/VarHandle" ∧ (parseMethodDescriptor (yX11_word : MethodName).desc).map (fun d => d.parameters.length) = some 2 := by decide +kernel
theorem vd_71 : (yL_isAlike : MethodName).cls ≠ "java/lang/invoke/MethodHandle" ∧ (yL_isAlike : MethodName).cls ≠ "java/lang/invoke/VarHandle" ∧ (parseMethodDescriptor (yL_isAlike : MethodName).desc).map (fun d => d.parameters.length) = some 5 := by decide +kernel
theorem vd_72 : (yX11_isAlike : MethodName).cls ≠ "java/lang/invoke/MethodHandle" ∧ (yX11_isAlike : MethodName).cls ≠ "java/lang/invoke/VarHandle" ∧ (parseMethodDescriptor (yX11_isAlike : MethodName).desc).map (fun d => d.parameters.length) = some 3 := by decide +kernel
theorem vd_73 : (yL_apart : MethodName).cls ≠ "java/lang/invoke/MethodHandle" ∧ (yL_apart : MethodName).cls ≠ "java/lang/invoke/VarHandle" ∧ (parseMethodDescriptor (yL_apart : MethodName).desc).map (fun d => d.parameters.length) = some 4 := by decide +kernel
theorem vd_74 : (yX11_apart : MethodName).cls ≠ "java/lang/invoke/MethodHandle" ∧ (yX11_apart : MethodName).cls ≠ "java/lang/invoke/VarHandle" ∧ (parseMethodDescriptor (yX11_apart : MethodName).desc).map (fun d => d.parameters.length) = some 2 := by decide +kernel
theorem vd_75 : (yL_pairs : MethodName).cls ≠ "java/lang/invoke/MethodHandle" ∧ (yL_pairs : MethodName).cls ≠ "java/lang/invoke/VarHandle" ∧ (parseMethodDescriptor (yL_pairs : MethodName).desc).map (fun d => d.parameters.length) = some 4 := by decide +kernel
theorem vd_76 : (yX11_pairs : MethodName).cls ≠ "java/lang/invoke/MethodHandle" ∧ (yX11_pairs : MethodName).cls ≠ "java/lang/invoke/VarHandle" ∧ (parseMethodDescriptor (yX11_pairs : MethodName).desc).map (fun d => d.parameters.length) = some 2 := by decide +kernel
theorem vd_77 : (yL_together : MethodName).cls ≠ "java/lang/invoke/MethodHandle" ∧ (yL_together : MethodName).cls ≠ "java/lang/invoke/VarHandle" ∧ (parseMethodDescriptor (yL_together : MethodName).desc).map (fun d => d.parameters.length) = some 6 := by decide +kernel
theorem vd_78 : (yX11_together : MethodName).cls ≠ "java/lang/invoke/MethodHandle" ∧ (yX11_together : MethodName).cls ≠ "java/lang/invoke/VarHandle" ∧ (parseMethodDescriptor (yX11_together : MethodName).desc).map (fun d => d.parameters.length) = some 4 := by decide +kernel
theorem vd_79 : (yL_house : MethodName).cls ≠ "java/lang/invoke/MethodHandle" ∧ (yL_house : MethodName).cls ≠ "java/lang/invoke/VarHandle" ∧ (parseMethodDescriptor (yL_house : MethodName).desc).map (fun d => d.parameters.length) = some 3 := by decide +kernel
theorem vd_80 : (yX11_house : MethodName).cls ≠ "java/lang/invoke/MethodHandle" ∧ (yX11_house : MethodName).cls ≠ "java/lang/invoke/VarHandle" ∧ (parseMethodDescriptor (yX11_house : MethodName).desc).map (fun d => d.parameters.length) = some 1 := by decide +kernel
theorem vd_81 : (yX9_knock : MethodName).cls ≠ "java/lang/invoke/MethodHandle" ∧ (yX9_knock : MethodName).cls ≠ "java/lang/invoke/VarHandle" ∧ (parseMethodDescriptor (yX9_knock : MethodName).desc).map (fun d => d.parameters.length) = some 0 := by decide +kernel
theorem vd_82 : (yX11_knock : MethodName).cls ≠ "java/lang/invoke/MethodHandle" ∧ (yX11_knock : MethodName).cls ≠ "java/lang/invoke/VarHandle" ∧ (parseMethodDescriptor (yX11_knock : MethodName).desc).map (fun d => d.parameters.length) = some 0 := by decide +kernel
theorem vd_83 : (yX9_isSound : MethodName).cls ≠ "java/lang/invoke/MethodHandle" ∧ (yX9_isSound : MethodName).cls ≠ "java/lang/invoke/VarHandle" ∧ (parseMethodDescriptor (yX9_isSound : MethodName).desc).map (fun d => d.parameters.length) = some 0 := by decide +kernel
theorem vd_84 : (yX11_isSound : MethodName).cls ≠ "java/lang/invoke/MethodHandle" ∧ (yX11_isSound : MethodName).cls ≠ "java/lang/invoke/VarHandle" ∧ (parseMethodDescriptor (yX11_isSound : MethodName).desc).map (fun d => d.parameters.length) = some 0 := by decide +kernel
theorem vd_85 : (yX9_digest : MethodName).cls ≠ "java/lang/invoke/MethodHandle" ∧ (yX9_digest : MethodName).cls ≠ "java/lang/invoke/VarHandle" ∧ (parseMethodDescriptor (yX9_digest : MethodName).desc).map (fun d => d.parameters.length) = some 0 := by decide +kernel
theorem vd_86 : (yX11_digest : MethodName).cls ≠ "java/lang/invoke/MethodHandle" ∧ (yX11_digest : MethodName).cls ≠ "java/lang/invoke/VarHandle" ∧ (parseMethodDescriptor (yX11_digest : MethodName).desc).map (fun d => d.parameters.length) = some 0 := by decide +kernel
theorem lx_ix {i : Int32} {L : Nat} (hi : 0 ≤ i.toInt) (hiL : i.toInt + 6 ≤ L) (hL : L ≤ 384) : ((i + (1 : Int32)).toInt = i.toInt + 1 ∧ (i + (2 : Int32)).toInt = i.toInt + 2 ∧ (i + (3 : Int32)).toInt = i.toInt + 3 ∧ (i + (4 : Int32)).toInt = i.toInt + 4 ∧ (i + (5 : Int32)).toInt = i.toInt + 5) ∧ vp_in i L ∧ vp_in (i + (1 : Int32)) L ∧ vp_in (i + (2 : Int32)) L ∧ vp_in (i + (3 : Int32)) L ∧ vp_in (i + (4 : Int32)) L ∧ vp_in (i + (5 : Int32)) L := by
  have hi1 : (i + (1 : Int32)).toInt = i.toInt + 1 := ii_a rfl (show (1 : Int32).toInt = 1 from rfl) (by omega) (by omega)
  have hi2 : (i + (2 : Int32)).toInt = i.toInt + 2 := ii_a rfl (show (2 : Int32).toInt = 2 from rfl) (by omega) (by omega)
  have hi3 : (i + (3 : Int32)).toInt = i.toInt + 3 := ii_a rfl (show (3 : Int32).toInt = 3 from rfl) (by omega) (by omega)
  have hi4 : (i + (4 : Int32)).toInt = i.toInt + 4 := ii_a rfl (show (4 : Int32).toInt = 4 from rfl) (by omega) (by omega)
  have hi5 : (i + (5 : Int32)).toInt = i.toInt + 5 := ii_a rfl (show (5 : Int32).toInt = 5 from rfl) (by omega) (by omega)
  have hv0 : vp_in i L := vin (by omega)
  have hv1 : vp_in (i + (1 : Int32)) L := vin (by omega)
  have hv2 : vp_in (i + (2 : Int32)) L := vin (by omega)
  have hv3 : vp_in (i + (3 : Int32)) L := vin (by omega)
  have hv4 : vp_in (i + (4 : Int32)) L := vin (by omega)
  have hv5 : vp_in (i + (5 : Int32)) L := vin (by omega)
  exact ⟨⟨hi1, hi2, hi3, hi4, hi5⟩, hv0, hv1, hv2, hv3, hv4, hv5⟩
set_option maxHeartbeats 4000000 in
set_option maxRecDepth 100000 in
theorem law_0 {p : Program} {l : Launch} {e : Env} {s : State} {m : MethodId} {b : Nat} {below : List Frame} {meth : Method} {c : Code} {L : Nat} {xs : Nat → Int32} {D : va_G} {ad bd : Nat → Nat} {cI cL cM cB : ClassId} {q : Nat} {Z : State → Prop} {JI : TMem → TMem → Prop} {i : Int32} {cv sv : Nat} (hRI : ∀ {μ ν : TMem}, JI μ ν → RI ν) (hGM : GM_begin JI) (C0 : LC p l s m b c L xs D ad bd cI cL cM cB) (hi : 0 ≤ i.toInt) (hiL : i.toInt + 6 ≤ L) (hcv : cv + 2000 ≤ 600128) (hsv : sv + 112000 ≤ 7301098) (hJ3 : LJ p l e s m b below meth c D ad bd cI cM q Z JI i (cv + 2000) (sv + 112000) 1544) : LJ p l e s m b below meth c D ad bd cI cM q Z JI i cv sv 180 := by
  obtain ⟨hx, hb, hml, hown, ht, hg, hI, hJ, hXs, hbl, hst, hL⟩ := C0
  have hN : NW s := hg.2.2.2.2.1
  have hbA : ¬ SA s.heap.size b := Nat.not_le.mpr hbl
  intro μ ν nv sw H locs ls hJI hw hl
  obtain ⟨⟨hi1, hi2, hi3, hi4, hi5⟩, hv0, hv1, hv2, hv3, hv4, hv5⟩ := lx_ix hi hiL hL
  refine lv_aload_n hx hb dL_law_180 rfl (lv_at hl 1 rfl) ?_
  refine lv_aload_n hx hb dL_law_181 rfl (lv_at hl 0 rfl) ?_
  refine lv_iload hx hb dL_law_182 (lv_at hl 4 rfl) ?_
  refine lv_iconst (v := (1 : Int32)) hx hb dL_law_184 (by decide) ?_
  refine lv_iadd hx hb dL_law_185 ?_
  refine va_sld hx hb hXs hbl hbA hw.2.2.1 (i := (i + (1 : Int32))) hv1 dL_law_186 ?_
  refine lv_aload_n hx hb dL_law_187 rfl (lv_at hl 0 rfl) ?_
  refine lv_iload hx hb dL_law_188 (lv_at hl 4 rfl) ?_
  refine lv_iconst (v := (2 : Int32)) hx hb dL_law_190 (by decide) ?_
  refine lv_iadd hx hb dL_law_191 ?_
  refine va_sld hx hb hXs hbl hbA hw.2.2.1 (i := (i + (2 : Int32))) hv2 dL_law_192 ?_
  refine lv_aload_n hx hb dL_law_193 rfl (lv_at hl 3 rfl) ?_
  refine LL_call hw hI (vx_runSX (own := "LeastreaderLaw") (As := [.ref (ad 0), .int (xs (i + (1 : Int32)).toNatClampNeg), .int (xs (i + (2 : Int32)).toNatClampNeg), .ref q]) (rest := []) ⟨hx, hb, hml, hown, ht⟩ (c_L_begin hst q nv sw μ H.size (xs (i + (1 : Int32)).toNatClampNeg) (xs (i + (2 : Int32)).toNatClampNeg) (PW := fun k u => RW_begin JI ν (xs (i + (1 : Int32)).toNatClampNeg) (xs (i + (2 : Int32)).toNatClampNeg) k u.2.1 u.1) (hGM μ ν nv (xs (i + (1 : Int32)).toNatClampNeg) (xs (i + (2 : Int32)).toNatClampNeg) hJI)) (vx_cwSW 4 ht (G_S q_588 q_589 q_45 q_590) rfl rfl rfl vd_27 ⟨Nat.le_of_ble_eq_true rfl, Nat.le_of_ble_eq_true rfl⟩) ⟨LB.blind, hg.lb hI hw⟩ rfl rfl hl.1 rfl (lv_room (Nat.le_of_ble_eq_true rfl)) dL_law_194 ⟨show cv + 2 ≤ 600128 by omega, show sv + 12 ≤ 7301098 by omega⟩) (fun r1 μ1 nv1 sw1 H locs hq1 hw => ?_)
  refine lv_istore (lv' := [(5, .int r1), (0, .ref b), (1, .ref (ad 0)), (2, .ref (bd 0)), (3, .ref q), (4, .int i)]) hx hb dL_law_197 hl (by decide) rfl (fun ls hl => ?_)
  refine lv_aload_n hx hb dL_law_199 rfl (lv_at hl 3 rfl) ?_
  refine lv_aload_n hx hb dL_law_200 rfl (lv_at hl 1 rfl) ?_
  refine lv_iload hx hb dL_law_201 (lv_at hl 5 rfl) ?_
  refine lv_iconst (v := (1 : Int32)) hx hb dL_law_203 (by decide) ?_
  refine lv_iadd hx hb dL_law_204 ?_
  refine va_sld hx hb hXs hbl hbA hw.2.2.1 (i := (i + (1 : Int32))) hv1 dL_law_205 ?_
  refine lv_aload_n hx hb dL_law_206 rfl (lv_at hl 1 rfl) ?_
  refine lv_iload hx hb dL_law_207 (lv_at hl 5 rfl) ?_
  refine lv_iconst (v := (2 : Int32)) hx hb dL_law_209 (by decide) ?_
  refine lv_iadd hx hb dL_law_210 ?_
  refine va_sld hx hb hXs hbl hbA hw.2.2.1 (i := (i + (2 : Int32))) hv2 dL_law_211 ?_
  refine M_calli hw (LZ_MA hw) (va_runV (own := "LeastreaderLaw") (As := [.int (xs (i + (1 : Int32)).toNatClampNeg), .int (xs (i + (2 : Int32)).toNatClampNeg)]) (rest := []) ⟨hx, hb, hml, hown, ht⟩ (c_X11_begin ν H.size (xs (i + (1 : Int32)).toNatClampNeg) (xs (i + (2 : Int32)).toNatClampNeg) hq1) (cwV 2 ht (G_V q_1338 q_1339 q_1340 q_56 q_1341) rfl rfl rfl ⟨rfl, vd_28⟩ ⟨Nat.le_of_ble_eq_true rfl, Nat.le_of_ble_eq_true rfl⟩) ⟨MB.blind, M_recv hg.2.1 hw, MB.pre hg.2.1 hJ hw va_P0 ne0⟩ rfl rfl hl.1 rfl (lv_room (Nat.le_of_ble_eq_true rfl)) dL_law_212 ⟨show cv + 2 + 0 ≤ 600128 by omega, show sv + 12 + 0 ≤ 7301098 by omega⟩) (fun r2 ν2 H locs hf2 hw => ?_)
  refine lv_istore (lv' := [(6, .int r2), (5, .int r1), (0, .ref b), (1, .ref (ad 0)), (2, .ref (bd 0)), (3, .ref q), (4, .int i)]) hx hb dL_law_215 hl (by decide) rfl (fun ls hl => ?_)
  refine lv_goto (tgt := 1544) hx hb dL_law_217 (by decide) ?_
  refine W.widen (show cv + 2 + 0 ≤ cv + 2000 by omega) (show sv + 12 + 0 ≤ sv + 112000 by omega) ?_
  exact hJ3 μ1 ν2 nv1 sw1 H locs ls hf2 hw (lv_sub hl [2, 3, 4, 5, 6] rfl)
set_option maxHeartbeats 4000000 in
set_option maxRecDepth 100000 in
theorem law_1 {p : Program} {l : Launch} {e : Env} {s : State} {m : MethodId} {b : Nat} {below : List Frame} {meth : Method} {c : Code} {L : Nat} {xs : Nat → Int32} {D : va_G} {ad bd : Nat → Nat} {cI cL cM cB : ClassId} {q : Nat} {Z : State → Prop} {JI : TMem → TMem → Prop} {i : Int32} {cv sv : Nat} (hRI : ∀ {μ ν : TMem}, JI μ ν → RI ν) (hGM : GM_arrow JI) (C0 : LC p l s m b c L xs D ad bd cI cL cM cB) (hi : 0 ≤ i.toInt) (hiL : i.toInt + 6 ≤ L) (hcv : cv + 2000 ≤ 600128) (hsv : sv + 112000 ≤ 7301098) (hJ3 : LJ p l e s m b below meth c D ad bd cI cM q Z JI i (cv + 2000) (sv + 112000) 1544) : LJ p l e s m b below meth c D ad bd cI cM q Z JI i cv sv 220 := by
  obtain ⟨hx, hb, hml, hown, ht, hg, hI, hJ, hXs, hbl, hst, hL⟩ := C0
  have hN : NW s := hg.2.2.2.2.1
  have hbA : ¬ SA s.heap.size b := Nat.not_le.mpr hbl
  intro μ ν nv sw H locs ls hJI hw hl
  obtain ⟨⟨hi1, hi2, hi3, hi4, hi5⟩, hv0, hv1, hv2, hv3, hv4, hv5⟩ := lx_ix hi hiL hL
  refine lv_aload_n hx hb dL_law_220 rfl (lv_at hl 1 rfl) ?_
  refine lv_aload_n hx hb dL_law_221 rfl (lv_at hl 0 rfl) ?_
  refine lv_iload hx hb dL_law_222 (lv_at hl 4 rfl) ?_
  refine lv_iconst (v := (1 : Int32)) hx hb dL_law_224 (by decide) ?_
  refine lv_iadd hx hb dL_law_225 ?_
  refine va_sld hx hb hXs hbl hbA hw.2.2.1 (i := (i + (1 : Int32))) hv1 dL_law_226 ?_
  refine lv_aload_n hx hb dL_law_227 rfl (lv_at hl 0 rfl) ?_
  refine lv_iload hx hb dL_law_228 (lv_at hl 4 rfl) ?_
  refine lv_iconst (v := (2 : Int32)) hx hb dL_law_230 (by decide) ?_
  refine lv_iadd hx hb dL_law_231 ?_
  refine va_sld hx hb hXs hbl hbA hw.2.2.1 (i := (i + (2 : Int32))) hv2 dL_law_232 ?_
  refine lv_aload_n hx hb dL_law_233 rfl (lv_at hl 0 rfl) ?_
  refine lv_iload hx hb dL_law_234 (lv_at hl 4 rfl) ?_
  refine lv_iconst (v := (3 : Int32)) hx hb dL_law_236 (by decide) ?_
  refine lv_iadd hx hb dL_law_237 ?_
  refine va_sld hx hb hXs hbl hbA hw.2.2.1 (i := (i + (3 : Int32))) hv3 dL_law_238 ?_
  refine lv_aload_n hx hb dL_law_239 rfl (lv_at hl 0 rfl) ?_
  refine lv_iload hx hb dL_law_240 (lv_at hl 4 rfl) ?_
  refine lv_iconst (v := (4 : Int32)) hx hb dL_law_242 (by decide) ?_
  refine lv_iadd hx hb dL_law_243 ?_
  refine va_sld hx hb hXs hbl hbA hw.2.2.1 (i := (i + (4 : Int32))) hv4 dL_law_244 ?_
  refine lv_aload_n hx hb dL_law_245 rfl (lv_at hl 0 rfl) ?_
  refine lv_iload hx hb dL_law_246 (lv_at hl 4 rfl) ?_
  refine lv_iconst (v := (5 : Int32)) hx hb dL_law_248 (by decide) ?_
  refine lv_iadd hx hb dL_law_249 ?_
  refine va_sld hx hb hXs hbl hbA hw.2.2.1 (i := (i + (5 : Int32))) hv5 dL_law_250 ?_
  refine lv_if_eq (tgt := 258) hx hb dL_law_251 (by decide) (fun c9 => ?_) (fun c9 => ?_)
  · have kb1 := c9
    refine lv_iconst (v := (0 : Int32)) hx hb dL_law_258 (by decide) ?_
    refine lv_aload_n hx hb dL_law_259 rfl (lv_at hl 3 rfl) ?_
    refine LL_call hw hI (vx_runSX (own := "LeastreaderLaw") (As := [.ref (ad 0), .int (xs (i + (1 : Int32)).toNatClampNeg), .int (xs (i + (2 : Int32)).toNatClampNeg), .int (xs (i + (3 : Int32)).toNatClampNeg), .int (xs (i + (4 : Int32)).toNatClampNeg), .int (0 : Int32), .ref q]) (rest := []) ⟨hx, hb, hml, hown, ht⟩ (c_L_arrow hst q nv sw μ H.size (xs (i + (1 : Int32)).toNatClampNeg) (xs (i + (2 : Int32)).toNatClampNeg) (xs (i + (3 : Int32)).toNatClampNeg) (xs (i + (4 : Int32)).toNatClampNeg) (0 : Int32) (PW := fun k u => RW_arrow JI ν (xs (i + (1 : Int32)).toNatClampNeg) (xs (i + (2 : Int32)).toNatClampNeg) (xs (i + (3 : Int32)).toNatClampNeg) (xs (i + (4 : Int32)).toNatClampNeg) (0 : Int32) k u.2.1 u.1) (hGM μ ν nv (xs (i + (1 : Int32)).toNatClampNeg) (xs (i + (2 : Int32)).toNatClampNeg) (xs (i + (3 : Int32)).toNatClampNeg) (xs (i + (4 : Int32)).toNatClampNeg) (0 : Int32) hJI)) (vx_cwSW 7 ht (G_S q_628 q_629 q_45 q_630) rfl rfl rfl vd_29 ⟨Nat.le_of_ble_eq_true rfl, Nat.le_of_ble_eq_true rfl⟩) ⟨LB.blind, hg.lb hI hw⟩ rfl rfl hl.1 rfl (lv_room (Nat.le_of_ble_eq_true rfl)) dL_law_260 ⟨show cv + 4 ≤ 600128 by omega, show sv + 24 ≤ 7301098 by omega⟩) (fun r2 μ2 nv2 sw2 H locs hq2 hw => ?_)
    refine lv_istore (lv' := [(5, .int r2), (0, .ref b), (1, .ref (ad 0)), (2, .ref (bd 0)), (3, .ref q), (4, .int i)]) hx hb dL_law_263 hl (by decide) rfl (fun ls hl => ?_)
    refine lv_aload_n hx hb dL_law_265 rfl (lv_at hl 3 rfl) ?_
    refine lv_aload_n hx hb dL_law_266 rfl (lv_at hl 1 rfl) ?_
    refine lv_iload hx hb dL_law_267 (lv_at hl 5 rfl) ?_
    refine lv_iconst (v := (1 : Int32)) hx hb dL_law_269 (by decide) ?_
    refine lv_iadd hx hb dL_law_270 ?_
    refine va_sld hx hb hXs hbl hbA hw.2.2.1 (i := (i + (1 : Int32))) hv1 dL_law_271 ?_
    refine lv_aload_n hx hb dL_law_272 rfl (lv_at hl 1 rfl) ?_
    refine lv_iload hx hb dL_law_273 (lv_at hl 5 rfl) ?_
    refine lv_iconst (v := (2 : Int32)) hx hb dL_law_275 (by decide) ?_
    refine lv_iadd hx hb dL_law_276 ?_
    refine va_sld hx hb hXs hbl hbA hw.2.2.1 (i := (i + (2 : Int32))) hv2 dL_law_277 ?_
    refine lv_aload_n hx hb dL_law_278 rfl (lv_at hl 1 rfl) ?_
    refine lv_iload hx hb dL_law_279 (lv_at hl 5 rfl) ?_
    refine lv_iconst (v := (3 : Int32)) hx hb dL_law_281 (by decide) ?_
    refine lv_iadd hx hb dL_law_282 ?_
    refine va_sld hx hb hXs hbl hbA hw.2.2.1 (i := (i + (3 : Int32))) hv3 dL_law_283 ?_
    refine lv_aload_n hx hb dL_law_284 rfl (lv_at hl 1 rfl) ?_
    refine lv_iload hx hb dL_law_285 (lv_at hl 5 rfl) ?_
    refine lv_iconst (v := (4 : Int32)) hx hb dL_law_287 (by decide) ?_
    refine lv_iadd hx hb dL_law_288 ?_
    refine va_sld hx hb hXs hbl hbA hw.2.2.1 (i := (i + (4 : Int32))) hv4 dL_law_289 ?_
    refine lv_aload_n hx hb dL_law_290 rfl (lv_at hl 1 rfl) ?_
    refine lv_iload hx hb dL_law_291 (lv_at hl 5 rfl) ?_
    refine lv_iconst (v := (5 : Int32)) hx hb dL_law_293 (by decide) ?_
    refine lv_iadd hx hb dL_law_294 ?_
    refine va_sld hx hb hXs hbl hbA hw.2.2.1 (i := (i + (5 : Int32))) hv5 dL_law_295 ?_
    refine lv_if_eq (tgt := 303) hx hb dL_law_296 (by decide) (fun c9 => ?_) (fun c9 => absurd kb1 c9)
    refine lv_iconst (v := (0 : Int32)) hx hb dL_law_303 (by decide) ?_
    refine M_calli hw (LZ_MA hw) (va_runV (own := "LeastreaderLaw") (As := [.int (xs (i + (1 : Int32)).toNatClampNeg), .int (xs (i + (2 : Int32)).toNatClampNeg), .int (xs (i + (3 : Int32)).toNatClampNeg), .int (xs (i + (4 : Int32)).toNatClampNeg), .int (0 : Int32)]) (rest := []) ⟨hx, hb, hml, hown, ht⟩ (c_X11_arrow ν H.size (xs (i + (1 : Int32)).toNatClampNeg) (xs (i + (2 : Int32)).toNatClampNeg) (xs (i + (3 : Int32)).toNatClampNeg) (xs (i + (4 : Int32)).toNatClampNeg) (0 : Int32) hq2) (cwV 5 ht (G_V q_1368 q_1369 q_1370 q_56 q_1371) rfl rfl rfl ⟨rfl, vd_30⟩ ⟨Nat.le_of_ble_eq_true rfl, Nat.le_of_ble_eq_true rfl⟩) ⟨MB.blind, M_recv hg.2.1 hw, MB.pre hg.2.1 hJ hw va_P0 ne0⟩ rfl rfl hl.1 rfl (lv_room (Nat.le_of_ble_eq_true rfl)) dL_law_304 ⟨show cv + 4 + 0 ≤ 600128 by omega, show sv + 24 + 0 ≤ 7301098 by omega⟩) (fun r3 ν3 H locs hf3 hw => ?_)
    refine lv_istore (lv' := [(6, .int r3), (5, .int r2), (0, .ref b), (1, .ref (ad 0)), (2, .ref (bd 0)), (3, .ref q), (4, .int i)]) hx hb dL_law_307 hl (by decide) rfl (fun ls hl => ?_)
    refine lv_goto (tgt := 1544) hx hb dL_law_309 (by decide) ?_
    refine W.widen (show cv + 4 + 0 ≤ cv + 2000 by omega) (show sv + 24 + 0 ≤ sv + 112000 by omega) ?_
    exact hJ3 μ2 ν3 nv2 sw2 H locs ls hf3 hw (lv_sub hl [2, 3, 4, 5, 6] rfl)
  · have kb1 := c9
    refine lv_iconst (v := (1 : Int32)) hx hb dL_law_254 (by decide) ?_
    refine lv_goto (tgt := 259) hx hb dL_law_255 (by decide) ?_
    refine lv_aload_n hx hb dL_law_259 rfl (lv_at hl 3 rfl) ?_
    refine LL_call hw hI (vx_runSX (own := "LeastreaderLaw") (As := [.ref (ad 0), .int (xs (i + (1 : Int32)).toNatClampNeg), .int (xs (i + (2 : Int32)).toNatClampNeg), .int (xs (i + (3 : Int32)).toNatClampNeg), .int (xs (i + (4 : Int32)).toNatClampNeg), .int (1 : Int32), .ref q]) (rest := []) ⟨hx, hb, hml, hown, ht⟩ (c_L_arrow hst q nv sw μ H.size (xs (i + (1 : Int32)).toNatClampNeg) (xs (i + (2 : Int32)).toNatClampNeg) (xs (i + (3 : Int32)).toNatClampNeg) (xs (i + (4 : Int32)).toNatClampNeg) (1 : Int32) (PW := fun k u => RW_arrow JI ν (xs (i + (1 : Int32)).toNatClampNeg) (xs (i + (2 : Int32)).toNatClampNeg) (xs (i + (3 : Int32)).toNatClampNeg) (xs (i + (4 : Int32)).toNatClampNeg) (1 : Int32) k u.2.1 u.1) (hGM μ ν nv (xs (i + (1 : Int32)).toNatClampNeg) (xs (i + (2 : Int32)).toNatClampNeg) (xs (i + (3 : Int32)).toNatClampNeg) (xs (i + (4 : Int32)).toNatClampNeg) (1 : Int32) hJI)) (vx_cwSW 7 ht (G_S q_628 q_629 q_45 q_630) rfl rfl rfl vd_29 ⟨Nat.le_of_ble_eq_true rfl, Nat.le_of_ble_eq_true rfl⟩) ⟨LB.blind, hg.lb hI hw⟩ rfl rfl hl.1 rfl (lv_room (Nat.le_of_ble_eq_true rfl)) dL_law_260 ⟨show cv + 4 ≤ 600128 by omega, show sv + 24 ≤ 7301098 by omega⟩) (fun r4 μ4 nv4 sw4 H locs hq4 hw => ?_)
    refine lv_istore (lv' := [(5, .int r4), (0, .ref b), (1, .ref (ad 0)), (2, .ref (bd 0)), (3, .ref q), (4, .int i)]) hx hb dL_law_263 hl (by decide) rfl (fun ls hl => ?_)
    refine lv_aload_n hx hb dL_law_265 rfl (lv_at hl 3 rfl) ?_
    refine lv_aload_n hx hb dL_law_266 rfl (lv_at hl 1 rfl) ?_
    refine lv_iload hx hb dL_law_267 (lv_at hl 5 rfl) ?_
    refine lv_iconst (v := (1 : Int32)) hx hb dL_law_269 (by decide) ?_
    refine lv_iadd hx hb dL_law_270 ?_
    refine va_sld hx hb hXs hbl hbA hw.2.2.1 (i := (i + (1 : Int32))) hv1 dL_law_271 ?_
    refine lv_aload_n hx hb dL_law_272 rfl (lv_at hl 1 rfl) ?_
    refine lv_iload hx hb dL_law_273 (lv_at hl 5 rfl) ?_
    refine lv_iconst (v := (2 : Int32)) hx hb dL_law_275 (by decide) ?_
    refine lv_iadd hx hb dL_law_276 ?_
    refine va_sld hx hb hXs hbl hbA hw.2.2.1 (i := (i + (2 : Int32))) hv2 dL_law_277 ?_
    refine lv_aload_n hx hb dL_law_278 rfl (lv_at hl 1 rfl) ?_
    refine lv_iload hx hb dL_law_279 (lv_at hl 5 rfl) ?_
    refine lv_iconst (v := (3 : Int32)) hx hb dL_law_281 (by decide) ?_
    refine lv_iadd hx hb dL_law_282 ?_
    refine va_sld hx hb hXs hbl hbA hw.2.2.1 (i := (i + (3 : Int32))) hv3 dL_law_283 ?_
    refine lv_aload_n hx hb dL_law_284 rfl (lv_at hl 1 rfl) ?_
    refine lv_iload hx hb dL_law_285 (lv_at hl 5 rfl) ?_
    refine lv_iconst (v := (4 : Int32)) hx hb dL_law_287 (by decide) ?_
    refine lv_iadd hx hb dL_law_288 ?_
    refine va_sld hx hb hXs hbl hbA hw.2.2.1 (i := (i + (4 : Int32))) hv4 dL_law_289 ?_
    refine lv_aload_n hx hb dL_law_290 rfl (lv_at hl 1 rfl) ?_
    refine lv_iload hx hb dL_law_291 (lv_at hl 5 rfl) ?_
    refine lv_iconst (v := (5 : Int32)) hx hb dL_law_293 (by decide) ?_
    refine lv_iadd hx hb dL_law_294 ?_
    refine va_sld hx hb hXs hbl hbA hw.2.2.1 (i := (i + (5 : Int32))) hv5 dL_law_295 ?_
    refine lv_if_eq (tgt := 303) hx hb dL_law_296 (by decide) (fun c9 => absurd c9 kb1) (fun c9 => ?_)
    refine lv_iconst (v := (1 : Int32)) hx hb dL_law_299 (by decide) ?_
    refine lv_goto (tgt := 304) hx hb dL_law_300 (by decide) ?_
    refine M_calli hw (LZ_MA hw) (va_runV (own := "LeastreaderLaw") (As := [.int (xs (i + (1 : Int32)).toNatClampNeg), .int (xs (i + (2 : Int32)).toNatClampNeg), .int (xs (i + (3 : Int32)).toNatClampNeg), .int (xs (i + (4 : Int32)).toNatClampNeg), .int (1 : Int32)]) (rest := []) ⟨hx, hb, hml, hown, ht⟩ (c_X11_arrow ν H.size (xs (i + (1 : Int32)).toNatClampNeg) (xs (i + (2 : Int32)).toNatClampNeg) (xs (i + (3 : Int32)).toNatClampNeg) (xs (i + (4 : Int32)).toNatClampNeg) (1 : Int32) hq4) (cwV 5 ht (G_V q_1368 q_1369 q_1370 q_56 q_1371) rfl rfl rfl ⟨rfl, vd_30⟩ ⟨Nat.le_of_ble_eq_true rfl, Nat.le_of_ble_eq_true rfl⟩) ⟨MB.blind, M_recv hg.2.1 hw, MB.pre hg.2.1 hJ hw va_P0 ne0⟩ rfl rfl hl.1 rfl (lv_room (Nat.le_of_ble_eq_true rfl)) dL_law_304 ⟨show cv + 4 + 0 ≤ 600128 by omega, show sv + 24 + 0 ≤ 7301098 by omega⟩) (fun r5 ν5 H locs hf5 hw => ?_)
    refine lv_istore (lv' := [(6, .int r5), (5, .int r4), (0, .ref b), (1, .ref (ad 0)), (2, .ref (bd 0)), (3, .ref q), (4, .int i)]) hx hb dL_law_307 hl (by decide) rfl (fun ls hl => ?_)
    refine lv_goto (tgt := 1544) hx hb dL_law_309 (by decide) ?_
    refine W.widen (show cv + 4 + 0 ≤ cv + 2000 by omega) (show sv + 24 + 0 ≤ sv + 112000 by omega) ?_
    exact hJ3 μ4 ν5 nv4 sw4 H locs ls hf5 hw (lv_sub hl [2, 3, 4, 5, 6] rfl)
set_option maxHeartbeats 4000000 in
set_option maxRecDepth 100000 in
theorem law_2 {p : Program} {l : Launch} {e : Env} {s : State} {m : MethodId} {b : Nat} {below : List Frame} {meth : Method} {c : Code} {L : Nat} {xs : Nat → Int32} {D : va_G} {ad bd : Nat → Nat} {cI cL cM cB : ClassId} {q : Nat} {Z : State → Prop} {JI : TMem → TMem → Prop} {i : Int32} {cv sv : Nat} (hRI : ∀ {μ ν : TMem}, JI μ ν → RI ν) (hGM : GM_lead JI) (C0 : LC p l s m b c L xs D ad bd cI cL cM cB) (hi : 0 ≤ i.toInt) (hiL : i.toInt + 6 ≤ L) (hcv : cv + 2000 ≤ 600128) (hsv : sv + 112000 ≤ 7301098) (hJ3 : LJ p l e s m b below meth c D ad bd cI cM q Z JI i (cv + 2000) (sv + 112000) 1544) : LJ p l e s m b below meth c D ad bd cI cM q Z JI i cv sv 312 := by
  obtain ⟨hx, hb, hml, hown, ht, hg, hI, hJ, hXs, hbl, hst, hL⟩ := C0
  have hN : NW s := hg.2.2.2.2.1
  have hbA : ¬ SA s.heap.size b := Nat.not_le.mpr hbl
  intro μ ν nv sw H locs ls hJI hw hl
  obtain ⟨⟨hi1, hi2, hi3, hi4, hi5⟩, hv0, hv1, hv2, hv3, hv4, hv5⟩ := lx_ix hi hiL hL
  refine lv_aload_n hx hb dL_law_312 rfl (lv_at hl 1 rfl) ?_
  refine lv_aload_n hx hb dL_law_313 rfl (lv_at hl 0 rfl) ?_
  refine lv_iload hx hb dL_law_314 (lv_at hl 4 rfl) ?_
  refine lv_iconst (v := (1 : Int32)) hx hb dL_law_316 (by decide) ?_
  refine lv_iadd hx hb dL_law_317 ?_
  refine va_sld hx hb hXs hbl hbA hw.2.2.1 (i := (i + (1 : Int32))) hv1 dL_law_318 ?_
  refine lv_aload_n hx hb dL_law_319 rfl (lv_at hl 0 rfl) ?_
  refine lv_iload hx hb dL_law_320 (lv_at hl 4 rfl) ?_
  refine lv_iconst (v := (2 : Int32)) hx hb dL_law_322 (by decide) ?_
  refine lv_iadd hx hb dL_law_323 ?_
  refine va_sld hx hb hXs hbl hbA hw.2.2.1 (i := (i + (2 : Int32))) hv2 dL_law_324 ?_
  refine lv_aload_n hx hb dL_law_325 rfl (lv_at hl 0 rfl) ?_
  refine lv_iload hx hb dL_law_326 (lv_at hl 4 rfl) ?_
  refine lv_iconst (v := (3 : Int32)) hx hb dL_law_328 (by decide) ?_
  refine lv_iadd hx hb dL_law_329 ?_
  refine va_sld hx hb hXs hbl hbA hw.2.2.1 (i := (i + (3 : Int32))) hv3 dL_law_330 ?_
  refine lv_aload_n hx hb dL_law_331 rfl (lv_at hl 0 rfl) ?_
  refine lv_iload hx hb dL_law_332 (lv_at hl 4 rfl) ?_
  refine lv_iconst (v := (4 : Int32)) hx hb dL_law_334 (by decide) ?_
  refine lv_iadd hx hb dL_law_335 ?_
  refine va_sld hx hb hXs hbl hbA hw.2.2.1 (i := (i + (4 : Int32))) hv4 dL_law_336 ?_
  refine lv_aload_n hx hb dL_law_337 rfl (lv_at hl 3 rfl) ?_
  refine LL_call hw hI (vx_runSX (own := "LeastreaderLaw") (As := [.ref (ad 0), .int (xs (i + (1 : Int32)).toNatClampNeg), .int (xs (i + (2 : Int32)).toNatClampNeg), .int (xs (i + (3 : Int32)).toNatClampNeg), .int (xs (i + (4 : Int32)).toNatClampNeg), .ref q]) (rest := []) ⟨hx, hb, hml, hown, ht⟩ (c_L_lead hst q nv sw μ H.size (xs (i + (1 : Int32)).toNatClampNeg) (xs (i + (2 : Int32)).toNatClampNeg) (xs (i + (3 : Int32)).toNatClampNeg) (xs (i + (4 : Int32)).toNatClampNeg) (PW := fun k u => RW_lead JI ν (xs (i + (1 : Int32)).toNatClampNeg) (xs (i + (2 : Int32)).toNatClampNeg) (xs (i + (3 : Int32)).toNatClampNeg) (xs (i + (4 : Int32)).toNatClampNeg) k u.2.1 u.1) (hGM μ ν nv (xs (i + (1 : Int32)).toNatClampNeg) (xs (i + (2 : Int32)).toNatClampNeg) (xs (i + (3 : Int32)).toNatClampNeg) (xs (i + (4 : Int32)).toNatClampNeg) hJI)) (vx_cwSW 6 ht (G_S q_644 q_645 q_45 q_646) rfl rfl rfl vd_31 ⟨Nat.le_of_ble_eq_true rfl, Nat.le_of_ble_eq_true rfl⟩) ⟨LB.blind, hg.lb hI hw⟩ rfl rfl hl.1 rfl (lv_room (Nat.le_of_ble_eq_true rfl)) dL_law_338 ⟨show cv + 4 ≤ 600128 by omega, show sv + 24 ≤ 7301098 by omega⟩) (fun r1 μ1 nv1 sw1 H locs hq1 hw => ?_)
  refine lv_istore (lv' := [(5, .int r1), (0, .ref b), (1, .ref (ad 0)), (2, .ref (bd 0)), (3, .ref q), (4, .int i)]) hx hb dL_law_341 hl (by decide) rfl (fun ls hl => ?_)
  refine lv_aload_n hx hb dL_law_343 rfl (lv_at hl 3 rfl) ?_
  refine lv_aload_n hx hb dL_law_344 rfl (lv_at hl 1 rfl) ?_
  refine lv_iload hx hb dL_law_345 (lv_at hl 5 rfl) ?_
  refine lv_iconst (v := (1 : Int32)) hx hb dL_law_347 (by decide) ?_
  refine lv_iadd hx hb dL_law_348 ?_
  refine va_sld hx hb hXs hbl hbA hw.2.2.1 (i := (i + (1 : Int32))) hv1 dL_law_349 ?_
  refine lv_aload_n hx hb dL_law_350 rfl (lv_at hl 1 rfl) ?_
  refine lv_iload hx hb dL_law_351 (lv_at hl 5 rfl) ?_
  refine lv_iconst (v := (2 : Int32)) hx hb dL_law_353 (by decide) ?_
  refine lv_iadd hx hb dL_law_354 ?_
  refine va_sld hx hb hXs hbl hbA hw.2.2.1 (i := (i + (2 : Int32))) hv2 dL_law_355 ?_
  refine lv_aload_n hx hb dL_law_356 rfl (lv_at hl 1 rfl) ?_
  refine lv_iload hx hb dL_law_357 (lv_at hl 5 rfl) ?_
  refine lv_iconst (v := (3 : Int32)) hx hb dL_law_359 (by decide) ?_
  refine lv_iadd hx hb dL_law_360 ?_
  refine va_sld hx hb hXs hbl hbA hw.2.2.1 (i := (i + (3 : Int32))) hv3 dL_law_361 ?_
  refine lv_aload_n hx hb dL_law_362 rfl (lv_at hl 1 rfl) ?_
  refine lv_iload hx hb dL_law_363 (lv_at hl 5 rfl) ?_
  refine lv_iconst (v := (4 : Int32)) hx hb dL_law_365 (by decide) ?_
  refine lv_iadd hx hb dL_law_366 ?_
  refine va_sld hx hb hXs hbl hbA hw.2.2.1 (i := (i + (4 : Int32))) hv4 dL_law_367 ?_
  refine M_calli hw (LZ_MA hw) (va_runV (own := "LeastreaderLaw") (As := [.int (xs (i + (1 : Int32)).toNatClampNeg), .int (xs (i + (2 : Int32)).toNatClampNeg), .int (xs (i + (3 : Int32)).toNatClampNeg), .int (xs (i + (4 : Int32)).toNatClampNeg)]) (rest := []) ⟨hx, hb, hml, hown, ht⟩ (c_X11_lead ν H.size (xs (i + (1 : Int32)).toNatClampNeg) (xs (i + (2 : Int32)).toNatClampNeg) (xs (i + (3 : Int32)).toNatClampNeg) (xs (i + (4 : Int32)).toNatClampNeg) hq1) (cwV 4 ht (G_V q_1380 q_1381 q_1382 q_56 q_1383) rfl rfl rfl ⟨rfl, vd_32⟩ ⟨Nat.le_of_ble_eq_true rfl, Nat.le_of_ble_eq_true rfl⟩) ⟨MB.blind, M_recv hg.2.1 hw, MB.pre hg.2.1 hJ hw va_P0 ne0⟩ rfl rfl hl.1 rfl (lv_room (Nat.le_of_ble_eq_true rfl)) dL_law_368 ⟨show cv + 4 + 0 ≤ 600128 by omega, show sv + 24 + 0 ≤ 7301098 by omega⟩) (fun r2 ν2 H locs hf2 hw => ?_)
  refine lv_istore (lv' := [(6, .int r2), (5, .int r1), (0, .ref b), (1, .ref (ad 0)), (2, .ref (bd 0)), (3, .ref q), (4, .int i)]) hx hb dL_law_371 hl (by decide) rfl (fun ls hl => ?_)
  refine lv_goto (tgt := 1544) hx hb dL_law_373 (by decide) ?_
  refine W.widen (show cv + 4 + 0 ≤ cv + 2000 by omega) (show sv + 24 + 0 ≤ sv + 112000 by omega) ?_
  exact hJ3 μ1 ν2 nv1 sw1 H locs ls hf2 hw (lv_sub hl [2, 3, 4, 5, 6] rfl)
set_option maxHeartbeats 4000000 in
set_option maxRecDepth 100000 in
theorem law_3 {p : Program} {l : Launch} {e : Env} {s : State} {m : MethodId} {b : Nat} {below : List Frame} {meth : Method} {c : Code} {L : Nat} {xs : Nat → Int32} {D : va_G} {ad bd : Nat → Nat} {cI cL cM cB : ClassId} {q : Nat} {Z : State → Prop} {JI : TMem → TMem → Prop} {i : Int32} {cv sv : Nat} (hRI : ∀ {μ ν : TMem}, JI μ ν → RI ν) (hGM : GM_mark JI) (C0 : LC p l s m b c L xs D ad bd cI cL cM cB) (hi : 0 ≤ i.toInt) (hiL : i.toInt + 6 ≤ L) (hcv : cv + 2000 ≤ 600128) (hsv : sv + 112000 ≤ 7301098) (hJ3 : LJ p l e s m b below meth c D ad bd cI cM q Z JI i (cv + 2000) (sv + 112000) 1544) : LJ p l e s m b below meth c D ad bd cI cM q Z JI i cv sv 376 := by
  obtain ⟨hx, hb, hml, hown, ht, hg, hI, hJ, hXs, hbl, hst, hL⟩ := C0
  have hN : NW s := hg.2.2.2.2.1
  have hbA : ¬ SA s.heap.size b := Nat.not_le.mpr hbl
  intro μ ν nv sw H locs ls hJI hw hl
  obtain ⟨⟨hi1, hi2, hi3, hi4, hi5⟩, hv0, hv1, hv2, hv3, hv4, hv5⟩ := lx_ix hi hiL hL
  refine lv_aload_n hx hb dL_law_376 rfl (lv_at hl 1 rfl) ?_
  refine lv_aload_n hx hb dL_law_377 rfl (lv_at hl 0 rfl) ?_
  refine lv_iload hx hb dL_law_378 (lv_at hl 4 rfl) ?_
  refine lv_iconst (v := (1 : Int32)) hx hb dL_law_380 (by decide) ?_
  refine lv_iadd hx hb dL_law_381 ?_
  refine va_sld hx hb hXs hbl hbA hw.2.2.1 (i := (i + (1 : Int32))) hv1 dL_law_382 ?_
  refine lv_aload_n hx hb dL_law_383 rfl (lv_at hl 0 rfl) ?_
  refine lv_iload hx hb dL_law_384 (lv_at hl 4 rfl) ?_
  refine lv_iconst (v := (2 : Int32)) hx hb dL_law_386 (by decide) ?_
  refine lv_iadd hx hb dL_law_387 ?_
  refine va_sld hx hb hXs hbl hbA hw.2.2.1 (i := (i + (2 : Int32))) hv2 dL_law_388 ?_
  refine lv_aload_n hx hb dL_law_389 rfl (lv_at hl 0 rfl) ?_
  refine lv_iload hx hb dL_law_390 (lv_at hl 4 rfl) ?_
  refine lv_iconst (v := (3 : Int32)) hx hb dL_law_392 (by decide) ?_
  refine lv_iadd hx hb dL_law_393 ?_
  refine va_sld hx hb hXs hbl hbA hw.2.2.1 (i := (i + (3 : Int32))) hv3 dL_law_394 ?_
  refine lv_if_eq (tgt := 402) hx hb dL_law_395 (by decide) (fun c9 => ?_) (fun c9 => ?_)
  · have kb1 := c9
    refine lv_iconst (v := (0 : Int32)) hx hb dL_law_402 (by decide) ?_
    refine lv_aload_n hx hb dL_law_403 rfl (lv_at hl 0 rfl) ?_
    refine lv_iload hx hb dL_law_404 (lv_at hl 4 rfl) ?_
    refine lv_iconst (v := (4 : Int32)) hx hb dL_law_406 (by decide) ?_
    refine lv_iadd hx hb dL_law_407 ?_
    refine va_sld hx hb hXs hbl hbA hw.2.2.1 (i := (i + (4 : Int32))) hv4 dL_law_408 ?_
    refine lv_if_eq (tgt := 416) hx hb dL_law_409 (by decide) (fun c9 => ?_) (fun c9 => ?_)
    · have kb2 := c9
      refine lv_iconst (v := (0 : Int32)) hx hb dL_law_416 (by decide) ?_
      refine lv_aload_n hx hb dL_law_417 rfl (lv_at hl 3 rfl) ?_
      refine LL_call hw hI (vx_runSX (own := "LeastreaderLaw") (As := [.ref (ad 0), .int (xs (i + (1 : Int32)).toNatClampNeg), .int (xs (i + (2 : Int32)).toNatClampNeg), .int (0 : Int32), .int (0 : Int32), .ref q]) (rest := []) ⟨hx, hb, hml, hown, ht⟩ (c_L_mark hst q nv sw μ H.size (xs (i + (1 : Int32)).toNatClampNeg) (xs (i + (2 : Int32)).toNatClampNeg) (0 : Int32) (0 : Int32) (PW := fun k u => RW_mark JI ν (xs (i + (1 : Int32)).toNatClampNeg) (xs (i + (2 : Int32)).toNatClampNeg) (0 : Int32) (0 : Int32) k u.2.1 u.1) (hGM μ ν nv (xs (i + (1 : Int32)).toNatClampNeg) (xs (i + (2 : Int32)).toNatClampNeg) (0 : Int32) (0 : Int32) hJI)) (vx_cwSW 6 ht (G_S q_652 q_653 q_45 q_654) rfl rfl rfl vd_33 ⟨Nat.le_of_ble_eq_true rfl, Nat.le_of_ble_eq_true rfl⟩) ⟨LB.blind, hg.lb hI hw⟩ rfl rfl hl.1 rfl (lv_room (Nat.le_of_ble_eq_true rfl)) dL_law_418 ⟨show cv + 2 ≤ 600128 by omega, show sv + 12 ≤ 7301098 by omega⟩) (fun r3 μ3 nv3 sw3 H locs hq3 hw => ?_)
      refine lv_istore (lv' := [(5, .int r3), (0, .ref b), (1, .ref (ad 0)), (2, .ref (bd 0)), (3, .ref q), (4, .int i)]) hx hb dL_law_421 hl (by decide) rfl (fun ls hl => ?_)
      refine lv_aload_n hx hb dL_law_423 rfl (lv_at hl 3 rfl) ?_
      refine lv_aload_n hx hb dL_law_424 rfl (lv_at hl 1 rfl) ?_
      refine lv_iload hx hb dL_law_425 (lv_at hl 5 rfl) ?_
      refine lv_iconst (v := (1 : Int32)) hx hb dL_law_427 (by decide) ?_
      refine lv_iadd hx hb dL_law_428 ?_
      refine va_sld hx hb hXs hbl hbA hw.2.2.1 (i := (i + (1 : Int32))) hv1 dL_law_429 ?_
      refine lv_aload_n hx hb dL_law_430 rfl (lv_at hl 1 rfl) ?_
      refine lv_iload hx hb dL_law_431 (lv_at hl 5 rfl) ?_
      refine lv_iconst (v := (2 : Int32)) hx hb dL_law_433 (by decide) ?_
      refine lv_iadd hx hb dL_law_434 ?_
      refine va_sld hx hb hXs hbl hbA hw.2.2.1 (i := (i + (2 : Int32))) hv2 dL_law_435 ?_
      refine lv_aload_n hx hb dL_law_436 rfl (lv_at hl 1 rfl) ?_
      refine lv_iload hx hb dL_law_437 (lv_at hl 5 rfl) ?_
      refine lv_iconst (v := (3 : Int32)) hx hb dL_law_439 (by decide) ?_
      refine lv_iadd hx hb dL_law_440 ?_
      refine va_sld hx hb hXs hbl hbA hw.2.2.1 (i := (i + (3 : Int32))) hv3 dL_law_441 ?_
      refine lv_if_eq (tgt := 449) hx hb dL_law_442 (by decide) (fun c9 => ?_) (fun c9 => absurd kb1 c9)
      refine lv_iconst (v := (0 : Int32)) hx hb dL_law_449 (by decide) ?_
      refine lv_aload_n hx hb dL_law_450 rfl (lv_at hl 1 rfl) ?_
      refine lv_iload hx hb dL_law_451 (lv_at hl 5 rfl) ?_
      refine lv_iconst (v := (4 : Int32)) hx hb dL_law_453 (by decide) ?_
      refine lv_iadd hx hb dL_law_454 ?_
      refine va_sld hx hb hXs hbl hbA hw.2.2.1 (i := (i + (4 : Int32))) hv4 dL_law_455 ?_
      refine lv_if_eq (tgt := 463) hx hb dL_law_456 (by decide) (fun c9 => ?_) (fun c9 => absurd kb2 c9)
      refine lv_iconst (v := (0 : Int32)) hx hb dL_law_463 (by decide) ?_
      refine M_calli hw (LZ_MA hw) (va_runV (own := "LeastreaderLaw") (As := [.int (xs (i + (1 : Int32)).toNatClampNeg), .int (xs (i + (2 : Int32)).toNatClampNeg), .int (0 : Int32), .int (0 : Int32)]) (rest := []) ⟨hx, hb, hml, hown, ht⟩ (c_X11_mark ν H.size (xs (i + (1 : Int32)).toNatClampNeg) (xs (i + (2 : Int32)).toNatClampNeg) (0 : Int32) (0 : Int32) hq3) (cwV 4 ht (G_V q_1384 q_1385 q_1386 q_56 q_1387) rfl rfl rfl ⟨rfl, vd_34⟩ ⟨Nat.le_of_ble_eq_true rfl, Nat.le_of_ble_eq_true rfl⟩) ⟨MB.blind, M_recv hg.2.1 hw, MB.pre hg.2.1 hJ hw va_P0 ne0⟩ rfl rfl hl.1 rfl (lv_room (Nat.le_of_ble_eq_true rfl)) dL_law_464 ⟨show cv + 2 + 0 ≤ 600128 by omega, show sv + 12 + 0 ≤ 7301098 by omega⟩) (fun r4 ν4 H locs hf4 hw => ?_)
      refine lv_istore (lv' := [(6, .int r4), (5, .int r3), (0, .ref b), (1, .ref (ad 0)), (2, .ref (bd 0)), (3, .ref q), (4, .int i)]) hx hb dL_law_467 hl (by decide) rfl (fun ls hl => ?_)
      refine lv_goto (tgt := 1544) hx hb dL_law_469 (by decide) ?_
      refine W.widen (show cv + 2 + 0 ≤ cv + 2000 by omega) (show sv + 12 + 0 ≤ sv + 112000 by omega) ?_
      exact hJ3 μ3 ν4 nv3 sw3 H locs ls hf4 hw (lv_sub hl [2, 3, 4, 5, 6] rfl)
    · have kb2 := c9
      refine lv_iconst (v := (1 : Int32)) hx hb dL_law_412 (by decide) ?_
      refine lv_goto (tgt := 417) hx hb dL_law_413 (by decide) ?_
      refine lv_aload_n hx hb dL_law_417 rfl (lv_at hl 3 rfl) ?_
      refine LL_call hw hI (vx_runSX (own := "LeastreaderLaw") (As := [.ref (ad 0), .int (xs (i + (1 : Int32)).toNatClampNeg), .int (xs (i + (2 : Int32)).toNatClampNeg), .int (0 : Int32), .int (1 : Int32), .ref q]) (rest := []) ⟨hx, hb, hml, hown, ht⟩ (c_L_mark hst q nv sw μ H.size (xs (i + (1 : Int32)).toNatClampNeg) (xs (i + (2 : Int32)).toNatClampNeg) (0 : Int32) (1 : Int32) (PW := fun k u => RW_mark JI ν (xs (i + (1 : Int32)).toNatClampNeg) (xs (i + (2 : Int32)).toNatClampNeg) (0 : Int32) (1 : Int32) k u.2.1 u.1) (hGM μ ν nv (xs (i + (1 : Int32)).toNatClampNeg) (xs (i + (2 : Int32)).toNatClampNeg) (0 : Int32) (1 : Int32) hJI)) (vx_cwSW 6 ht (G_S q_652 q_653 q_45 q_654) rfl rfl rfl vd_33 ⟨Nat.le_of_ble_eq_true rfl, Nat.le_of_ble_eq_true rfl⟩) ⟨LB.blind, hg.lb hI hw⟩ rfl rfl hl.1 rfl (lv_room (Nat.le_of_ble_eq_true rfl)) dL_law_418 ⟨show cv + 2 ≤ 600128 by omega, show sv + 12 ≤ 7301098 by omega⟩) (fun r5 μ5 nv5 sw5 H locs hq5 hw => ?_)
      refine lv_istore (lv' := [(5, .int r5), (0, .ref b), (1, .ref (ad 0)), (2, .ref (bd 0)), (3, .ref q), (4, .int i)]) hx hb dL_law_421 hl (by decide) rfl (fun ls hl => ?_)
      refine lv_aload_n hx hb dL_law_423 rfl (lv_at hl 3 rfl) ?_
      refine lv_aload_n hx hb dL_law_424 rfl (lv_at hl 1 rfl) ?_
      refine lv_iload hx hb dL_law_425 (lv_at hl 5 rfl) ?_
      refine lv_iconst (v := (1 : Int32)) hx hb dL_law_427 (by decide) ?_
      refine lv_iadd hx hb dL_law_428 ?_
      refine va_sld hx hb hXs hbl hbA hw.2.2.1 (i := (i + (1 : Int32))) hv1 dL_law_429 ?_
      refine lv_aload_n hx hb dL_law_430 rfl (lv_at hl 1 rfl) ?_
      refine lv_iload hx hb dL_law_431 (lv_at hl 5 rfl) ?_
      refine lv_iconst (v := (2 : Int32)) hx hb dL_law_433 (by decide) ?_
      refine lv_iadd hx hb dL_law_434 ?_
      refine va_sld hx hb hXs hbl hbA hw.2.2.1 (i := (i + (2 : Int32))) hv2 dL_law_435 ?_
      refine lv_aload_n hx hb dL_law_436 rfl (lv_at hl 1 rfl) ?_
      refine lv_iload hx hb dL_law_437 (lv_at hl 5 rfl) ?_
      refine lv_iconst (v := (3 : Int32)) hx hb dL_law_439 (by decide) ?_
      refine lv_iadd hx hb dL_law_440 ?_
      refine va_sld hx hb hXs hbl hbA hw.2.2.1 (i := (i + (3 : Int32))) hv3 dL_law_441 ?_
      refine lv_if_eq (tgt := 449) hx hb dL_law_442 (by decide) (fun c9 => ?_) (fun c9 => absurd kb1 c9)
      refine lv_iconst (v := (0 : Int32)) hx hb dL_law_449 (by decide) ?_
      refine lv_aload_n hx hb dL_law_450 rfl (lv_at hl 1 rfl) ?_
      refine lv_iload hx hb dL_law_451 (lv_at hl 5 rfl) ?_
      refine lv_iconst (v := (4 : Int32)) hx hb dL_law_453 (by decide) ?_
      refine lv_iadd hx hb dL_law_454 ?_
      refine va_sld hx hb hXs hbl hbA hw.2.2.1 (i := (i + (4 : Int32))) hv4 dL_law_455 ?_
      refine lv_if_eq (tgt := 463) hx hb dL_law_456 (by decide) (fun c9 => absurd c9 kb2) (fun c9 => ?_)
      refine lv_iconst (v := (1 : Int32)) hx hb dL_law_459 (by decide) ?_
      refine lv_goto (tgt := 464) hx hb dL_law_460 (by decide) ?_
      refine M_calli hw (LZ_MA hw) (va_runV (own := "LeastreaderLaw") (As := [.int (xs (i + (1 : Int32)).toNatClampNeg), .int (xs (i + (2 : Int32)).toNatClampNeg), .int (0 : Int32), .int (1 : Int32)]) (rest := []) ⟨hx, hb, hml, hown, ht⟩ (c_X11_mark ν H.size (xs (i + (1 : Int32)).toNatClampNeg) (xs (i + (2 : Int32)).toNatClampNeg) (0 : Int32) (1 : Int32) hq5) (cwV 4 ht (G_V q_1384 q_1385 q_1386 q_56 q_1387) rfl rfl rfl ⟨rfl, vd_34⟩ ⟨Nat.le_of_ble_eq_true rfl, Nat.le_of_ble_eq_true rfl⟩) ⟨MB.blind, M_recv hg.2.1 hw, MB.pre hg.2.1 hJ hw va_P0 ne0⟩ rfl rfl hl.1 rfl (lv_room (Nat.le_of_ble_eq_true rfl)) dL_law_464 ⟨show cv + 2 + 0 ≤ 600128 by omega, show sv + 12 + 0 ≤ 7301098 by omega⟩) (fun r6 ν6 H locs hf6 hw => ?_)
      refine lv_istore (lv' := [(6, .int r6), (5, .int r5), (0, .ref b), (1, .ref (ad 0)), (2, .ref (bd 0)), (3, .ref q), (4, .int i)]) hx hb dL_law_467 hl (by decide) rfl (fun ls hl => ?_)
      refine lv_goto (tgt := 1544) hx hb dL_law_469 (by decide) ?_
      refine W.widen (show cv + 2 + 0 ≤ cv + 2000 by omega) (show sv + 12 + 0 ≤ sv + 112000 by omega) ?_
      exact hJ3 μ5 ν6 nv5 sw5 H locs ls hf6 hw (lv_sub hl [2, 3, 4, 5, 6] rfl)
  · have kb1 := c9
    refine lv_iconst (v := (1 : Int32)) hx hb dL_law_398 (by decide) ?_
    refine lv_goto (tgt := 403) hx hb dL_law_399 (by decide) ?_
    refine lv_aload_n hx hb dL_law_403 rfl (lv_at hl 0 rfl) ?_
    refine lv_iload hx hb dL_law_404 (lv_at hl 4 rfl) ?_
    refine lv_iconst (v := (4 : Int32)) hx hb dL_law_406 (by decide) ?_
    refine lv_iadd hx hb dL_law_407 ?_
    refine va_sld hx hb hXs hbl hbA hw.2.2.1 (i := (i + (4 : Int32))) hv4 dL_law_408 ?_
    refine lv_if_eq (tgt := 416) hx hb dL_law_409 (by decide) (fun c9 => ?_) (fun c9 => ?_)
    · have kb7 := c9
      refine lv_iconst (v := (0 : Int32)) hx hb dL_law_416 (by decide) ?_
      refine lv_aload_n hx hb dL_law_417 rfl (lv_at hl 3 rfl) ?_
      refine LL_call hw hI (vx_runSX (own := "LeastreaderLaw") (As := [.ref (ad 0), .int (xs (i + (1 : Int32)).toNatClampNeg), .int (xs (i + (2 : Int32)).toNatClampNeg), .int (1 : Int32), .int (0 : Int32), .ref q]) (rest := []) ⟨hx, hb, hml, hown, ht⟩ (c_L_mark hst q nv sw μ H.size (xs (i + (1 : Int32)).toNatClampNeg) (xs (i + (2 : Int32)).toNatClampNeg) (1 : Int32) (0 : Int32) (PW := fun k u => RW_mark JI ν (xs (i + (1 : Int32)).toNatClampNeg) (xs (i + (2 : Int32)).toNatClampNeg) (1 : Int32) (0 : Int32) k u.2.1 u.1) (hGM μ ν nv (xs (i + (1 : Int32)).toNatClampNeg) (xs (i + (2 : Int32)).toNatClampNeg) (1 : Int32) (0 : Int32) hJI)) (vx_cwSW 6 ht (G_S q_652 q_653 q_45 q_654) rfl rfl rfl vd_33 ⟨Nat.le_of_ble_eq_true rfl, Nat.le_of_ble_eq_true rfl⟩) ⟨LB.blind, hg.lb hI hw⟩ rfl rfl hl.1 rfl (lv_room (Nat.le_of_ble_eq_true rfl)) dL_law_418 ⟨show cv + 2 ≤ 600128 by omega, show sv + 12 ≤ 7301098 by omega⟩) (fun r8 μ8 nv8 sw8 H locs hq8 hw => ?_)
      refine lv_istore (lv' := [(5, .int r8), (0, .ref b), (1, .ref (ad 0)), (2, .ref (bd 0)), (3, .ref q), (4, .int i)]) hx hb dL_law_421 hl (by decide) rfl (fun ls hl => ?_)
      refine lv_aload_n hx hb dL_law_423 rfl (lv_at hl 3 rfl) ?_
      refine lv_aload_n hx hb dL_law_424 rfl (lv_at hl 1 rfl) ?_
      refine lv_iload hx hb dL_law_425 (lv_at hl 5 rfl) ?_
      refine lv_iconst (v := (1 : Int32)) hx hb dL_law_427 (by decide) ?_
      refine lv_iadd hx hb dL_law_428 ?_
      refine va_sld hx hb hXs hbl hbA hw.2.2.1 (i := (i + (1 : Int32))) hv1 dL_law_429 ?_
      refine lv_aload_n hx hb dL_law_430 rfl (lv_at hl 1 rfl) ?_
      refine lv_iload hx hb dL_law_431 (lv_at hl 5 rfl) ?_
      refine lv_iconst (v := (2 : Int32)) hx hb dL_law_433 (by decide) ?_
      refine lv_iadd hx hb dL_law_434 ?_
      refine va_sld hx hb hXs hbl hbA hw.2.2.1 (i := (i + (2 : Int32))) hv2 dL_law_435 ?_
      refine lv_aload_n hx hb dL_law_436 rfl (lv_at hl 1 rfl) ?_
      refine lv_iload hx hb dL_law_437 (lv_at hl 5 rfl) ?_
      refine lv_iconst (v := (3 : Int32)) hx hb dL_law_439 (by decide) ?_
      refine lv_iadd hx hb dL_law_440 ?_
      refine va_sld hx hb hXs hbl hbA hw.2.2.1 (i := (i + (3 : Int32))) hv3 dL_law_441 ?_
      refine lv_if_eq (tgt := 449) hx hb dL_law_442 (by decide) (fun c9 => absurd c9 kb1) (fun c9 => ?_)
      refine lv_iconst (v := (1 : Int32)) hx hb dL_law_445 (by decide) ?_
      refine lv_goto (tgt := 450) hx hb dL_law_446 (by decide) ?_
      refine lv_aload_n hx hb dL_law_450 rfl (lv_at hl 1 rfl) ?_
      refine lv_iload hx hb dL_law_451 (lv_at hl 5 rfl) ?_
      refine lv_iconst (v := (4 : Int32)) hx hb dL_law_453 (by decide) ?_
      refine lv_iadd hx hb dL_law_454 ?_
      refine va_sld hx hb hXs hbl hbA hw.2.2.1 (i := (i + (4 : Int32))) hv4 dL_law_455 ?_
      refine lv_if_eq (tgt := 463) hx hb dL_law_456 (by decide) (fun c9 => ?_) (fun c9 => absurd kb7 c9)
      refine lv_iconst (v := (0 : Int32)) hx hb dL_law_463 (by decide) ?_
      refine M_calli hw (LZ_MA hw) (va_runV (own := "LeastreaderLaw") (As := [.int (xs (i + (1 : Int32)).toNatClampNeg), .int (xs (i + (2 : Int32)).toNatClampNeg), .int (1 : Int32), .int (0 : Int32)]) (rest := []) ⟨hx, hb, hml, hown, ht⟩ (c_X11_mark ν H.size (xs (i + (1 : Int32)).toNatClampNeg) (xs (i + (2 : Int32)).toNatClampNeg) (1 : Int32) (0 : Int32) hq8) (cwV 4 ht (G_V q_1384 q_1385 q_1386 q_56 q_1387) rfl rfl rfl ⟨rfl, vd_34⟩ ⟨Nat.le_of_ble_eq_true rfl, Nat.le_of_ble_eq_true rfl⟩) ⟨MB.blind, M_recv hg.2.1 hw, MB.pre hg.2.1 hJ hw va_P0 ne0⟩ rfl rfl hl.1 rfl (lv_room (Nat.le_of_ble_eq_true rfl)) dL_law_464 ⟨show cv + 2 + 0 ≤ 600128 by omega, show sv + 12 + 0 ≤ 7301098 by omega⟩) (fun r9 ν9 H locs hf9 hw => ?_)
      refine lv_istore (lv' := [(6, .int r9), (5, .int r8), (0, .ref b), (1, .ref (ad 0)), (2, .ref (bd 0)), (3, .ref q), (4, .int i)]) hx hb dL_law_467 hl (by decide) rfl (fun ls hl => ?_)
      refine lv_goto (tgt := 1544) hx hb dL_law_469 (by decide) ?_
      refine W.widen (show cv + 2 + 0 ≤ cv + 2000 by omega) (show sv + 12 + 0 ≤ sv + 112000 by omega) ?_
      exact hJ3 μ8 ν9 nv8 sw8 H locs ls hf9 hw (lv_sub hl [2, 3, 4, 5, 6] rfl)
    · have kb7 := c9
      refine lv_iconst (v := (1 : Int32)) hx hb dL_law_412 (by decide) ?_
      refine lv_goto (tgt := 417) hx hb dL_law_413 (by decide) ?_
      refine lv_aload_n hx hb dL_law_417 rfl (lv_at hl 3 rfl) ?_
      refine LL_call hw hI (vx_runSX (own := "LeastreaderLaw") (As := [.ref (ad 0), .int (xs (i + (1 : Int32)).toNatClampNeg), .int (xs (i + (2 : Int32)).toNatClampNeg), .int (1 : Int32), .int (1 : Int32), .ref q]) (rest := []) ⟨hx, hb, hml, hown, ht⟩ (c_L_mark hst q nv sw μ H.size (xs (i + (1 : Int32)).toNatClampNeg) (xs (i + (2 : Int32)).toNatClampNeg) (1 : Int32) (1 : Int32) (PW := fun k u => RW_mark JI ν (xs (i + (1 : Int32)).toNatClampNeg) (xs (i + (2 : Int32)).toNatClampNeg) (1 : Int32) (1 : Int32) k u.2.1 u.1) (hGM μ ν nv (xs (i + (1 : Int32)).toNatClampNeg) (xs (i + (2 : Int32)).toNatClampNeg) (1 : Int32) (1 : Int32) hJI)) (vx_cwSW 6 ht (G_S q_652 q_653 q_45 q_654) rfl rfl rfl vd_33 ⟨Nat.le_of_ble_eq_true rfl, Nat.le_of_ble_eq_true rfl⟩) ⟨LB.blind, hg.lb hI hw⟩ rfl rfl hl.1 rfl (lv_room (Nat.le_of_ble_eq_true rfl)) dL_law_418 ⟨show cv + 2 ≤ 600128 by omega, show sv + 12 ≤ 7301098 by omega⟩) (fun r10 μ10 nv10 sw10 H locs hq10 hw => ?_)
      refine lv_istore (lv' := [(5, .int r10), (0, .ref b), (1, .ref (ad 0)), (2, .ref (bd 0)), (3, .ref q), (4, .int i)]) hx hb dL_law_421 hl (by decide) rfl (fun ls hl => ?_)
      refine lv_aload_n hx hb dL_law_423 rfl (lv_at hl 3 rfl) ?_
      refine lv_aload_n hx hb dL_law_424 rfl (lv_at hl 1 rfl) ?_
      refine lv_iload hx hb dL_law_425 (lv_at hl 5 rfl) ?_
      refine lv_iconst (v := (1 : Int32)) hx hb dL_law_427 (by decide) ?_
      refine lv_iadd hx hb dL_law_428 ?_
      refine va_sld hx hb hXs hbl hbA hw.2.2.1 (i := (i + (1 : Int32))) hv1 dL_law_429 ?_
      refine lv_aload_n hx hb dL_law_430 rfl (lv_at hl 1 rfl) ?_
      refine lv_iload hx hb dL_law_431 (lv_at hl 5 rfl) ?_
      refine lv_iconst (v := (2 : Int32)) hx hb dL_law_433 (by decide) ?_
      refine lv_iadd hx hb dL_law_434 ?_
      refine va_sld hx hb hXs hbl hbA hw.2.2.1 (i := (i + (2 : Int32))) hv2 dL_law_435 ?_
      refine lv_aload_n hx hb dL_law_436 rfl (lv_at hl 1 rfl) ?_
      refine lv_iload hx hb dL_law_437 (lv_at hl 5 rfl) ?_
      refine lv_iconst (v := (3 : Int32)) hx hb dL_law_439 (by decide) ?_
      refine lv_iadd hx hb dL_law_440 ?_
      refine va_sld hx hb hXs hbl hbA hw.2.2.1 (i := (i + (3 : Int32))) hv3 dL_law_441 ?_
      refine lv_if_eq (tgt := 449) hx hb dL_law_442 (by decide) (fun c9 => absurd c9 kb1) (fun c9 => ?_)
      refine lv_iconst (v := (1 : Int32)) hx hb dL_law_445 (by decide) ?_
      refine lv_goto (tgt := 450) hx hb dL_law_446 (by decide) ?_
      refine lv_aload_n hx hb dL_law_450 rfl (lv_at hl 1 rfl) ?_
      refine lv_iload hx hb dL_law_451 (lv_at hl 5 rfl) ?_
      refine lv_iconst (v := (4 : Int32)) hx hb dL_law_453 (by decide) ?_
      refine lv_iadd hx hb dL_law_454 ?_
      refine va_sld hx hb hXs hbl hbA hw.2.2.1 (i := (i + (4 : Int32))) hv4 dL_law_455 ?_
      refine lv_if_eq (tgt := 463) hx hb dL_law_456 (by decide) (fun c9 => absurd c9 kb7) (fun c9 => ?_)
      refine lv_iconst (v := (1 : Int32)) hx hb dL_law_459 (by decide) ?_
      refine lv_goto (tgt := 464) hx hb dL_law_460 (by decide) ?_
      refine M_calli hw (LZ_MA hw) (va_runV (own := "LeastreaderLaw") (As := [.int (xs (i + (1 : Int32)).toNatClampNeg), .int (xs (i + (2 : Int32)).toNatClampNeg), .int (1 : Int32), .int (1 : Int32)]) (rest := []) ⟨hx, hb, hml, hown, ht⟩ (c_X11_mark ν H.size (xs (i + (1 : Int32)).toNatClampNeg) (xs (i + (2 : Int32)).toNatClampNeg) (1 : Int32) (1 : Int32) hq10) (cwV 4 ht (G_V q_1384 q_1385 q_1386 q_56 q_1387) rfl rfl rfl ⟨rfl, vd_34⟩ ⟨Nat.le_of_ble_eq_true rfl, Nat.le_of_ble_eq_true rfl⟩) ⟨MB.blind, M_recv hg.2.1 hw, MB.pre hg.2.1 hJ hw va_P0 ne0⟩ rfl rfl hl.1 rfl (lv_room (Nat.le_of_ble_eq_true rfl)) dL_law_464 ⟨show cv + 2 + 0 ≤ 600128 by omega, show sv + 12 + 0 ≤ 7301098 by omega⟩) (fun r11 ν11 H locs hf11 hw => ?_)
      refine lv_istore (lv' := [(6, .int r11), (5, .int r10), (0, .ref b), (1, .ref (ad 0)), (2, .ref (bd 0)), (3, .ref q), (4, .int i)]) hx hb dL_law_467 hl (by decide) rfl (fun ls hl => ?_)
      refine lv_goto (tgt := 1544) hx hb dL_law_469 (by decide) ?_
      refine W.widen (show cv + 2 + 0 ≤ cv + 2000 by omega) (show sv + 12 + 0 ≤ sv + 112000 by omega) ?_
      exact hJ3 μ10 ν11 nv10 sw10 H locs ls hf11 hw (lv_sub hl [2, 3, 4, 5, 6] rfl)
set_option maxHeartbeats 4000000 in
set_option maxRecDepth 100000 in
theorem law_4 {p : Program} {l : Launch} {e : Env} {s : State} {m : MethodId} {b : Nat} {below : List Frame} {meth : Method} {c : Code} {L : Nat} {xs : Nat → Int32} {D : va_G} {ad bd : Nat → Nat} {cI cL cM cB : ClassId} {q : Nat} {Z : State → Prop} {JI : TMem → TMem → Prop} {i : Int32} {cv sv : Nat} (hRI : ∀ {μ ν : TMem}, JI μ ν → RI ν) (hGM : GM_sow JI) (C0 : LC p l s m b c L xs D ad bd cI cL cM cB) (hi : 0 ≤ i.toInt) (hiL : i.toInt + 6 ≤ L) (hcv : cv + 2000 ≤ 600128) (hsv : sv + 112000 ≤ 7301098) (hJ3 : LJ p l e s m b below meth c D ad bd cI cM q Z JI i (cv + 2000) (sv + 112000) 1544) : LJ p l e s m b below meth c D ad bd cI cM q Z JI i cv sv 472 := by
  obtain ⟨hx, hb, hml, hown, ht, hg, hI, hJ, hXs, hbl, hst, hL⟩ := C0
  have hN : NW s := hg.2.2.2.2.1
  have hbA : ¬ SA s.heap.size b := Nat.not_le.mpr hbl
  intro μ ν nv sw H locs ls hJI hw hl
  obtain ⟨⟨hi1, hi2, hi3, hi4, hi5⟩, hv0, hv1, hv2, hv3, hv4, hv5⟩ := lx_ix hi hiL hL
  refine lv_aload_n hx hb dL_law_472 rfl (lv_at hl 1 rfl) ?_
  refine lv_aload_n hx hb dL_law_473 rfl (lv_at hl 0 rfl) ?_
  refine lv_iload hx hb dL_law_474 (lv_at hl 4 rfl) ?_
  refine lv_iconst (v := (1 : Int32)) hx hb dL_law_476 (by decide) ?_
  refine lv_iadd hx hb dL_law_477 ?_
  refine va_sld hx hb hXs hbl hbA hw.2.2.1 (i := (i + (1 : Int32))) hv1 dL_law_478 ?_
  refine lv_aload_n hx hb dL_law_479 rfl (lv_at hl 0 rfl) ?_
  refine lv_iload hx hb dL_law_480 (lv_at hl 4 rfl) ?_
  refine lv_iconst (v := (2 : Int32)) hx hb dL_law_482 (by decide) ?_
  refine lv_iadd hx hb dL_law_483 ?_
  refine va_sld hx hb hXs hbl hbA hw.2.2.1 (i := (i + (2 : Int32))) hv2 dL_law_484 ?_
  refine lv_aload_n hx hb dL_law_485 rfl (lv_at hl 0 rfl) ?_
  refine lv_iload hx hb dL_law_486 (lv_at hl 4 rfl) ?_
  refine lv_iconst (v := (3 : Int32)) hx hb dL_law_488 (by decide) ?_
  refine lv_iadd hx hb dL_law_489 ?_
  refine va_sld hx hb hXs hbl hbA hw.2.2.1 (i := (i + (3 : Int32))) hv3 dL_law_490 ?_
  refine lv_aload_n hx hb dL_law_491 rfl (lv_at hl 0 rfl) ?_
  refine lv_iload hx hb dL_law_492 (lv_at hl 4 rfl) ?_
  refine lv_iconst (v := (4 : Int32)) hx hb dL_law_494 (by decide) ?_
  refine lv_iadd hx hb dL_law_495 ?_
  refine va_sld hx hb hXs hbl hbA hw.2.2.1 (i := (i + (4 : Int32))) hv4 dL_law_496 ?_
  refine lv_aload_n hx hb dL_law_497 rfl (lv_at hl 3 rfl) ?_
  refine LL_call hw hI (vx_runSX (own := "LeastreaderLaw") (As := [.ref (ad 0), .int (xs (i + (1 : Int32)).toNatClampNeg), .int (xs (i + (2 : Int32)).toNatClampNeg), .int (xs (i + (3 : Int32)).toNatClampNeg), .int (xs (i + (4 : Int32)).toNatClampNeg), .ref q]) (rest := []) ⟨hx, hb, hml, hown, ht⟩ (c_L_sow hst q nv sw μ H.size (xs (i + (1 : Int32)).toNatClampNeg) (xs (i + (2 : Int32)).toNatClampNeg) (xs (i + (3 : Int32)).toNatClampNeg) (xs (i + (4 : Int32)).toNatClampNeg) (PW := fun k u => RW_sow JI ν (xs (i + (1 : Int32)).toNatClampNeg) (xs (i + (2 : Int32)).toNatClampNeg) (xs (i + (3 : Int32)).toNatClampNeg) (xs (i + (4 : Int32)).toNatClampNeg) k u.2.1 u.1) (hGM μ ν nv (xs (i + (1 : Int32)).toNatClampNeg) (xs (i + (2 : Int32)).toNatClampNeg) (xs (i + (3 : Int32)).toNatClampNeg) (xs (i + (4 : Int32)).toNatClampNeg) hJI)) (vx_cwSW 6 ht (G_S q_659 q_660 q_45 q_661) rfl rfl rfl vd_35 ⟨Nat.le_of_ble_eq_true rfl, Nat.le_of_ble_eq_true rfl⟩) ⟨LB.blind, hg.lb hI hw⟩ rfl rfl hl.1 rfl (lv_room (Nat.le_of_ble_eq_true rfl)) dL_law_498 ⟨show cv + 4 ≤ 600128 by omega, show sv + 24 ≤ 7301098 by omega⟩) (fun r1 μ1 nv1 sw1 H locs hq1 hw => ?_)
  refine lv_istore (lv' := [(5, .int r1), (0, .ref b), (1, .ref (ad 0)), (2, .ref (bd 0)), (3, .ref q), (4, .int i)]) hx hb dL_law_501 hl (by decide) rfl (fun ls hl => ?_)
  refine lv_aload_n hx hb dL_law_503 rfl (lv_at hl 3 rfl) ?_
  refine lv_aload_n hx hb dL_law_504 rfl (lv_at hl 1 rfl) ?_
  refine lv_iload hx hb dL_law_505 (lv_at hl 5 rfl) ?_
  refine lv_iconst (v := (1 : Int32)) hx hb dL_law_507 (by decide) ?_
  refine lv_iadd hx hb dL_law_508 ?_
  refine va_sld hx hb hXs hbl hbA hw.2.2.1 (i := (i + (1 : Int32))) hv1 dL_law_509 ?_
  refine lv_aload_n hx hb dL_law_510 rfl (lv_at hl 1 rfl) ?_
  refine lv_iload hx hb dL_law_511 (lv_at hl 5 rfl) ?_
  refine lv_iconst (v := (2 : Int32)) hx hb dL_law_513 (by decide) ?_
  refine lv_iadd hx hb dL_law_514 ?_
  refine va_sld hx hb hXs hbl hbA hw.2.2.1 (i := (i + (2 : Int32))) hv2 dL_law_515 ?_
  refine lv_aload_n hx hb dL_law_516 rfl (lv_at hl 1 rfl) ?_
  refine lv_iload hx hb dL_law_517 (lv_at hl 5 rfl) ?_
  refine lv_iconst (v := (3 : Int32)) hx hb dL_law_519 (by decide) ?_
  refine lv_iadd hx hb dL_law_520 ?_
  refine va_sld hx hb hXs hbl hbA hw.2.2.1 (i := (i + (3 : Int32))) hv3 dL_law_521 ?_
  refine lv_aload_n hx hb dL_law_522 rfl (lv_at hl 1 rfl) ?_
  refine lv_iload hx hb dL_law_523 (lv_at hl 5 rfl) ?_
  refine lv_iconst (v := (4 : Int32)) hx hb dL_law_525 (by decide) ?_
  refine lv_iadd hx hb dL_law_526 ?_
  refine va_sld hx hb hXs hbl hbA hw.2.2.1 (i := (i + (4 : Int32))) hv4 dL_law_527 ?_
  refine M_calli hw (LZ_MA hw) (va_runV (own := "LeastreaderLaw") (As := [.int (xs (i + (1 : Int32)).toNatClampNeg), .int (xs (i + (2 : Int32)).toNatClampNeg), .int (xs (i + (3 : Int32)).toNatClampNeg), .int (xs (i + (4 : Int32)).toNatClampNeg)]) (rest := []) ⟨hx, hb, hml, hown, ht⟩ (c_X11_sow ν H.size (xs (i + (1 : Int32)).toNatClampNeg) (xs (i + (2 : Int32)).toNatClampNeg) (xs (i + (3 : Int32)).toNatClampNeg) (xs (i + (4 : Int32)).toNatClampNeg) hq1) (cwV 4 ht (G_V q_1388 q_1389 q_1390 q_56 q_1391) rfl rfl rfl ⟨rfl, vd_36⟩ ⟨Nat.le_of_ble_eq_true rfl, Nat.le_of_ble_eq_true rfl⟩) ⟨MB.blind, M_recv hg.2.1 hw, MB.pre hg.2.1 hJ hw va_P0 ne0⟩ rfl rfl hl.1 rfl (lv_room (Nat.le_of_ble_eq_true rfl)) dL_law_528 ⟨show cv + 4 + 0 ≤ 600128 by omega, show sv + 24 + 0 ≤ 7301098 by omega⟩) (fun r2 ν2 H locs hf2 hw => ?_)
  refine lv_istore (lv' := [(6, .int r2), (5, .int r1), (0, .ref b), (1, .ref (ad 0)), (2, .ref (bd 0)), (3, .ref q), (4, .int i)]) hx hb dL_law_531 hl (by decide) rfl (fun ls hl => ?_)
  refine lv_goto (tgt := 1544) hx hb dL_law_533 (by decide) ?_
  refine W.widen (show cv + 4 + 0 ≤ cv + 2000 by omega) (show sv + 24 + 0 ≤ sv + 112000 by omega) ?_
  exact hJ3 μ1 ν2 nv1 sw1 H locs ls hf2 hw (lv_sub hl [2, 3, 4, 5, 6] rfl)
set_option maxHeartbeats 4000000 in
set_option maxRecDepth 100000 in
theorem law_5 {p : Program} {l : Launch} {e : Env} {s : State} {m : MethodId} {b : Nat} {below : List Frame} {meth : Method} {c : Code} {L : Nat} {xs : Nat → Int32} {D : va_G} {ad bd : Nat → Nat} {cI cL cM cB : ClassId} {q : Nat} {Z : State → Prop} {JI : TMem → TMem → Prop} {i : Int32} {cv sv : Nat} (hRI : ∀ {μ ν : TMem}, JI μ ν → RI ν) (hGM : GM_copy JI) (C0 : LC p l s m b c L xs D ad bd cI cL cM cB) (hi : 0 ≤ i.toInt) (hiL : i.toInt + 6 ≤ L) (hcv : cv + 2000 ≤ 600128) (hsv : sv + 112000 ≤ 7301098) (hJ3 : LJ p l e s m b below meth c D ad bd cI cM q Z JI i (cv + 2000) (sv + 112000) 1544) : LJ p l e s m b below meth c D ad bd cI cM q Z JI i cv sv 536 := by
  obtain ⟨hx, hb, hml, hown, ht, hg, hI, hJ, hXs, hbl, hst, hL⟩ := C0
  have hN : NW s := hg.2.2.2.2.1
  have hbA : ¬ SA s.heap.size b := Nat.not_le.mpr hbl
  intro μ ν nv sw H locs ls hJI hw hl
  obtain ⟨⟨hi1, hi2, hi3, hi4, hi5⟩, hv0, hv1, hv2, hv3, hv4, hv5⟩ := lx_ix hi hiL hL
  refine lv_aload_n hx hb dL_law_536 rfl (lv_at hl 1 rfl) ?_
  refine lv_aload_n hx hb dL_law_537 rfl (lv_at hl 0 rfl) ?_
  refine lv_iload hx hb dL_law_538 (lv_at hl 4 rfl) ?_
  refine lv_iconst (v := (1 : Int32)) hx hb dL_law_540 (by decide) ?_
  refine lv_iadd hx hb dL_law_541 ?_
  refine va_sld hx hb hXs hbl hbA hw.2.2.1 (i := (i + (1 : Int32))) hv1 dL_law_542 ?_
  refine lv_aload_n hx hb dL_law_543 rfl (lv_at hl 0 rfl) ?_
  refine lv_iload hx hb dL_law_544 (lv_at hl 4 rfl) ?_
  refine lv_iconst (v := (2 : Int32)) hx hb dL_law_546 (by decide) ?_
  refine lv_iadd hx hb dL_law_547 ?_
  refine va_sld hx hb hXs hbl hbA hw.2.2.1 (i := (i + (2 : Int32))) hv2 dL_law_548 ?_
  refine lv_aload_n hx hb dL_law_549 rfl (lv_at hl 3 rfl) ?_
  refine LL_call hw hI (vx_runSX (own := "LeastreaderLaw") (As := [.ref (ad 0), .int (xs (i + (1 : Int32)).toNatClampNeg), .int (xs (i + (2 : Int32)).toNatClampNeg), .ref q]) (rest := []) ⟨hx, hb, hml, hown, ht⟩ (c_L_copy hst q nv sw μ H.size (xs (i + (1 : Int32)).toNatClampNeg) (xs (i + (2 : Int32)).toNatClampNeg) (PW := fun k u => RW_copy JI ν (xs (i + (1 : Int32)).toNatClampNeg) (xs (i + (2 : Int32)).toNatClampNeg) k u.2.1 u.1) (hGM μ ν nv (xs (i + (1 : Int32)).toNatClampNeg) (xs (i + (2 : Int32)).toNatClampNeg) hJI)) (vx_cwSW 4 ht (G_S q_692 q_693 q_45 q_694) rfl rfl rfl vd_37 ⟨Nat.le_of_ble_eq_true rfl, Nat.le_of_ble_eq_true rfl⟩) ⟨LB.blind, hg.lb hI hw⟩ rfl rfl hl.1 rfl (lv_room (Nat.le_of_ble_eq_true rfl)) dL_law_550 ⟨show cv + 2 ≤ 600128 by omega, show sv + 12 ≤ 7301098 by omega⟩) (fun r1 μ1 nv1 sw1 H locs hq1 hw => ?_)
  refine lv_istore (lv' := [(5, .int r1), (0, .ref b), (1, .ref (ad 0)), (2, .ref (bd 0)), (3, .ref q), (4, .int i)]) hx hb dL_law_553 hl (by decide) rfl (fun ls hl => ?_)
  refine lv_aload_n hx hb dL_law_555 rfl (lv_at hl 3 rfl) ?_
  refine lv_aload_n hx hb dL_law_556 rfl (lv_at hl 1 rfl) ?_
  refine lv_iload hx hb dL_law_557 (lv_at hl 5 rfl) ?_
  refine lv_iconst (v := (1 : Int32)) hx hb dL_law_559 (by decide) ?_
  refine lv_iadd hx hb dL_law_560 ?_
  refine va_sld hx hb hXs hbl hbA hw.2.2.1 (i := (i + (1 : Int32))) hv1 dL_law_561 ?_
  refine lv_aload_n hx hb dL_law_562 rfl (lv_at hl 1 rfl) ?_
  refine lv_iload hx hb dL_law_563 (lv_at hl 5 rfl) ?_
  refine lv_iconst (v := (2 : Int32)) hx hb dL_law_565 (by decide) ?_
  refine lv_iadd hx hb dL_law_566 ?_
  refine va_sld hx hb hXs hbl hbA hw.2.2.1 (i := (i + (2 : Int32))) hv2 dL_law_567 ?_
  refine M_calli hw (LZ_MA hw) (va_runV (own := "LeastreaderLaw") (As := [.int (xs (i + (1 : Int32)).toNatClampNeg), .int (xs (i + (2 : Int32)).toNatClampNeg)]) (rest := []) ⟨hx, hb, hml, hown, ht⟩ (c_X11_copy ν H.size (xs (i + (1 : Int32)).toNatClampNeg) (xs (i + (2 : Int32)).toNatClampNeg) hq1) (cwV 2 ht (G_V q_1394 q_1395 q_1396 q_56 q_1397) rfl rfl rfl ⟨rfl, vd_38⟩ ⟨Nat.le_of_ble_eq_true rfl, Nat.le_of_ble_eq_true rfl⟩) ⟨MB.blind, M_recv hg.2.1 hw, MB.pre hg.2.1 hJ hw va_P0 ne0⟩ rfl rfl hl.1 rfl (lv_room (Nat.le_of_ble_eq_true rfl)) dL_law_568 ⟨show cv + 2 + 0 ≤ 600128 by omega, show sv + 12 + 0 ≤ 7301098 by omega⟩) (fun r2 ν2 H locs hf2 hw => ?_)
  refine lv_istore (lv' := [(6, .int r2), (5, .int r1), (0, .ref b), (1, .ref (ad 0)), (2, .ref (bd 0)), (3, .ref q), (4, .int i)]) hx hb dL_law_571 hl (by decide) rfl (fun ls hl => ?_)
  refine lv_goto (tgt := 1544) hx hb dL_law_573 (by decide) ?_
  refine W.widen (show cv + 2 + 0 ≤ cv + 2000 by omega) (show sv + 12 + 0 ≤ sv + 112000 by omega) ?_
  exact hJ3 μ1 ν2 nv1 sw1 H locs ls hf2 hw (lv_sub hl [2, 3, 4, 5, 6] rfl)
set_option maxHeartbeats 4000000 in
set_option maxRecDepth 100000 in
theorem law_6 {p : Program} {l : Launch} {e : Env} {s : State} {m : MethodId} {b : Nat} {below : List Frame} {meth : Method} {c : Code} {L : Nat} {xs : Nat → Int32} {D : va_G} {ad bd : Nat → Nat} {cI cL cM cB : ClassId} {q : Nat} {Z : State → Prop} {JI : TMem → TMem → Prop} {i : Int32} {cv sv : Nat} (hRI : ∀ {μ ν : TMem}, JI μ ν → RI ν) (hGM : GM_swap JI) (C0 : LC p l s m b c L xs D ad bd cI cL cM cB) (hi : 0 ≤ i.toInt) (hiL : i.toInt + 6 ≤ L) (hcv : cv + 2000 ≤ 600128) (hsv : sv + 112000 ≤ 7301098) (hJ3 : LJ p l e s m b below meth c D ad bd cI cM q Z JI i (cv + 2000) (sv + 112000) 1544) : LJ p l e s m b below meth c D ad bd cI cM q Z JI i cv sv 576 := by
  obtain ⟨hx, hb, hml, hown, ht, hg, hI, hJ, hXs, hbl, hst, hL⟩ := C0
  have hN : NW s := hg.2.2.2.2.1
  have hbA : ¬ SA s.heap.size b := Nat.not_le.mpr hbl
  intro μ ν nv sw H locs ls hJI hw hl
  obtain ⟨⟨hi1, hi2, hi3, hi4, hi5⟩, hv0, hv1, hv2, hv3, hv4, hv5⟩ := lx_ix hi hiL hL
  refine lv_aload_n hx hb dL_law_576 rfl (lv_at hl 1 rfl) ?_
  refine lv_aload_n hx hb dL_law_577 rfl (lv_at hl 0 rfl) ?_
  refine lv_iload hx hb dL_law_578 (lv_at hl 4 rfl) ?_
  refine lv_iconst (v := (1 : Int32)) hx hb dL_law_580 (by decide) ?_
  refine lv_iadd hx hb dL_law_581 ?_
  refine va_sld hx hb hXs hbl hbA hw.2.2.1 (i := (i + (1 : Int32))) hv1 dL_law_582 ?_
  refine lv_aload_n hx hb dL_law_583 rfl (lv_at hl 0 rfl) ?_
  refine lv_iload hx hb dL_law_584 (lv_at hl 4 rfl) ?_
  refine lv_iconst (v := (2 : Int32)) hx hb dL_law_586 (by decide) ?_
  refine lv_iadd hx hb dL_law_587 ?_
  refine va_sld hx hb hXs hbl hbA hw.2.2.1 (i := (i + (2 : Int32))) hv2 dL_law_588 ?_
  refine lv_aload_n hx hb dL_law_589 rfl (lv_at hl 3 rfl) ?_
  refine LL_call hw hI (vx_runSX (own := "LeastreaderLaw") (As := [.ref (ad 0), .int (xs (i + (1 : Int32)).toNatClampNeg), .int (xs (i + (2 : Int32)).toNatClampNeg), .ref q]) (rest := []) ⟨hx, hb, hml, hown, ht⟩ (c_L_swap hst q nv sw μ H.size (xs (i + (1 : Int32)).toNatClampNeg) (xs (i + (2 : Int32)).toNatClampNeg) (PW := fun k u => RW_swap JI ν (xs (i + (1 : Int32)).toNatClampNeg) (xs (i + (2 : Int32)).toNatClampNeg) k u.2.1 u.1) (hGM μ ν nv (xs (i + (1 : Int32)).toNatClampNeg) (xs (i + (2 : Int32)).toNatClampNeg) hJI)) (vx_cwSW 4 ht (G_S q_710 q_711 q_45 q_712) rfl rfl rfl vd_39 ⟨Nat.le_of_ble_eq_true rfl, Nat.le_of_ble_eq_true rfl⟩) ⟨LB.blind, hg.lb hI hw⟩ rfl rfl hl.1 rfl (lv_room (Nat.le_of_ble_eq_true rfl)) dL_law_590 ⟨show cv + 2 ≤ 600128 by omega, show sv + 12 ≤ 7301098 by omega⟩) (fun r1 μ1 nv1 sw1 H locs hq1 hw => ?_)
  refine lv_istore (lv' := [(5, .int r1), (0, .ref b), (1, .ref (ad 0)), (2, .ref (bd 0)), (3, .ref q), (4, .int i)]) hx hb dL_law_593 hl (by decide) rfl (fun ls hl => ?_)
  refine lv_aload_n hx hb dL_law_595 rfl (lv_at hl 3 rfl) ?_
  refine lv_aload_n hx hb dL_law_596 rfl (lv_at hl 1 rfl) ?_
  refine lv_iload hx hb dL_law_597 (lv_at hl 5 rfl) ?_
  refine lv_iconst (v := (1 : Int32)) hx hb dL_law_599 (by decide) ?_
  refine lv_iadd hx hb dL_law_600 ?_
  refine va_sld hx hb hXs hbl hbA hw.2.2.1 (i := (i + (1 : Int32))) hv1 dL_law_601 ?_
  refine lv_aload_n hx hb dL_law_602 rfl (lv_at hl 1 rfl) ?_
  refine lv_iload hx hb dL_law_603 (lv_at hl 5 rfl) ?_
  refine lv_iconst (v := (2 : Int32)) hx hb dL_law_605 (by decide) ?_
  refine lv_iadd hx hb dL_law_606 ?_
  refine va_sld hx hb hXs hbl hbA hw.2.2.1 (i := (i + (2 : Int32))) hv2 dL_law_607 ?_
  refine M_calli hw (LZ_MA hw) (va_runV (own := "LeastreaderLaw") (As := [.int (xs (i + (1 : Int32)).toNatClampNeg), .int (xs (i + (2 : Int32)).toNatClampNeg)]) (rest := []) ⟨hx, hb, hml, hown, ht⟩ (c_X11_swap ν H.size (xs (i + (1 : Int32)).toNatClampNeg) (xs (i + (2 : Int32)).toNatClampNeg) hq1) (cwV 2 ht (G_V q_1402 q_1403 q_1404 q_56 q_1405) rfl rfl rfl ⟨rfl, vd_40⟩ ⟨Nat.le_of_ble_eq_true rfl, Nat.le_of_ble_eq_true rfl⟩) ⟨MB.blind, M_recv hg.2.1 hw, MB.pre hg.2.1 hJ hw va_P0 ne0⟩ rfl rfl hl.1 rfl (lv_room (Nat.le_of_ble_eq_true rfl)) dL_law_608 ⟨show cv + 2 + 0 ≤ 600128 by omega, show sv + 12 + 0 ≤ 7301098 by omega⟩) (fun r2 ν2 H locs hf2 hw => ?_)
  refine lv_istore (lv' := [(6, .int r2), (5, .int r1), (0, .ref b), (1, .ref (ad 0)), (2, .ref (bd 0)), (3, .ref q), (4, .int i)]) hx hb dL_law_611 hl (by decide) rfl (fun ls hl => ?_)
  refine lv_goto (tgt := 1544) hx hb dL_law_613 (by decide) ?_
  refine W.widen (show cv + 2 + 0 ≤ cv + 2000 by omega) (show sv + 12 + 0 ≤ sv + 112000 by omega) ?_
  exact hJ3 μ1 ν2 nv1 sw1 H locs ls hf2 hw (lv_sub hl [2, 3, 4, 5, 6] rfl)
set_option maxHeartbeats 4000000 in
set_option maxRecDepth 100000 in
theorem law_7 {p : Program} {l : Launch} {e : Env} {s : State} {m : MethodId} {b : Nat} {below : List Frame} {meth : Method} {c : Code} {L : Nat} {xs : Nat → Int32} {D : va_G} {ad bd : Nat → Nat} {cI cL cM cB : ClassId} {q : Nat} {Z : State → Prop} {JI : TMem → TMem → Prop} {i : Int32} {cv sv : Nat} (hRI : ∀ {μ ν : TMem}, JI μ ν → RI ν) (hGM : GM_turn JI) (C0 : LC p l s m b c L xs D ad bd cI cL cM cB) (hi : 0 ≤ i.toInt) (hiL : i.toInt + 6 ≤ L) (hcv : cv + 2000 ≤ 600128) (hsv : sv + 112000 ≤ 7301098) (hJ3 : LJ p l e s m b below meth c D ad bd cI cM q Z JI i (cv + 2000) (sv + 112000) 1544) : LJ p l e s m b below meth c D ad bd cI cM q Z JI i cv sv 616 := by
  obtain ⟨hx, hb, hml, hown, ht, hg, hI, hJ, hXs, hbl, hst, hL⟩ := C0
  have hN : NW s := hg.2.2.2.2.1
  have hbA : ¬ SA s.heap.size b := Nat.not_le.mpr hbl
  intro μ ν nv sw H locs ls hJI hw hl
  obtain ⟨⟨hi1, hi2, hi3, hi4, hi5⟩, hv0, hv1, hv2, hv3, hv4, hv5⟩ := lx_ix hi hiL hL
  refine lv_aload_n hx hb dL_law_616 rfl (lv_at hl 1 rfl) ?_
  refine lv_aload_n hx hb dL_law_617 rfl (lv_at hl 0 rfl) ?_
  refine lv_iload hx hb dL_law_618 (lv_at hl 4 rfl) ?_
  refine lv_iconst (v := (1 : Int32)) hx hb dL_law_620 (by decide) ?_
  refine lv_iadd hx hb dL_law_621 ?_
  refine va_sld hx hb hXs hbl hbA hw.2.2.1 (i := (i + (1 : Int32))) hv1 dL_law_622 ?_
  refine lv_aload_n hx hb dL_law_623 rfl (lv_at hl 3 rfl) ?_
  refine LL_call hw hI (vx_runSX (own := "LeastreaderLaw") (As := [.ref (ad 0), .int (xs (i + (1 : Int32)).toNatClampNeg), .ref q]) (rest := []) ⟨hx, hb, hml, hown, ht⟩ (c_L_turn hst q nv sw μ H.size (xs (i + (1 : Int32)).toNatClampNeg) (PW := fun k u => RW_turn JI ν (xs (i + (1 : Int32)).toNatClampNeg) k u.2.1 u.1) (hGM μ ν nv (xs (i + (1 : Int32)).toNatClampNeg) hJI)) (vx_cwSW 3 ht (G_S q_717 q_718 q_45 q_719) rfl rfl rfl vd_41 ⟨Nat.le_of_ble_eq_true rfl, Nat.le_of_ble_eq_true rfl⟩) ⟨LB.blind, hg.lb hI hw⟩ rfl rfl hl.1 rfl (lv_room (Nat.le_of_ble_eq_true rfl)) dL_law_624 ⟨show cv + 1 ≤ 600128 by omega, show sv + 6 ≤ 7301098 by omega⟩) (fun r1 μ1 nv1 sw1 H locs hq1 hw => ?_)
  refine lv_istore (lv' := [(5, .int r1), (0, .ref b), (1, .ref (ad 0)), (2, .ref (bd 0)), (3, .ref q), (4, .int i)]) hx hb dL_law_627 hl (by decide) rfl (fun ls hl => ?_)
  refine lv_aload_n hx hb dL_law_629 rfl (lv_at hl 3 rfl) ?_
  refine lv_aload_n hx hb dL_law_630 rfl (lv_at hl 1 rfl) ?_
  refine lv_iload hx hb dL_law_631 (lv_at hl 5 rfl) ?_
  refine lv_iconst (v := (1 : Int32)) hx hb dL_law_633 (by decide) ?_
  refine lv_iadd hx hb dL_law_634 ?_
  refine va_sld hx hb hXs hbl hbA hw.2.2.1 (i := (i + (1 : Int32))) hv1 dL_law_635 ?_
  refine M_calli hw (LZ_MA hw) (va_runV (own := "LeastreaderLaw") (As := [.int (xs (i + (1 : Int32)).toNatClampNeg)]) (rest := []) ⟨hx, hb, hml, hown, ht⟩ (c_X11_turn ν H.size (xs (i + (1 : Int32)).toNatClampNeg) hq1) (cwV 1 ht (G_V q_1409 q_1410 q_1411 q_56 q_1412) rfl rfl rfl ⟨rfl, vd_42⟩ ⟨Nat.le_of_ble_eq_true rfl, Nat.le_of_ble_eq_true rfl⟩) ⟨MB.blind, M_recv hg.2.1 hw, MB.pre hg.2.1 hJ hw va_P0 ne0⟩ rfl rfl hl.1 rfl (lv_room (Nat.le_of_ble_eq_true rfl)) dL_law_636 ⟨show cv + 1 + 1 ≤ 600128 by omega, show sv + 6 + 21 ≤ 7301098 by omega⟩) (fun r2 ν2 H locs hf2 hw => ?_)
  refine lv_istore (lv' := [(6, .int r2), (5, .int r1), (0, .ref b), (1, .ref (ad 0)), (2, .ref (bd 0)), (3, .ref q), (4, .int i)]) hx hb dL_law_639 hl (by decide) rfl (fun ls hl => ?_)
  refine lv_goto (tgt := 1544) hx hb dL_law_641 (by decide) ?_
  refine W.widen (show cv + 1 + 1 ≤ cv + 2000 by omega) (show sv + 6 + 21 ≤ sv + 112000 by omega) ?_
  exact hJ3 μ1 ν2 nv1 sw1 H locs ls hf2 hw (lv_sub hl [2, 3, 4, 5, 6] rfl)
set_option maxHeartbeats 4000000 in
set_option maxRecDepth 100000 in
theorem law_8 {p : Program} {l : Launch} {e : Env} {s : State} {m : MethodId} {b : Nat} {below : List Frame} {meth : Method} {c : Code} {L : Nat} {xs : Nat → Int32} {D : va_G} {ad bd : Nat → Nat} {cI cL cM cB : ClassId} {q : Nat} {Z : State → Prop} {JI : TMem → TMem → Prop} {i : Int32} {cv sv : Nat} (hRI : ∀ {μ ν : TMem}, JI μ ν → RI ν) (hGM : GM_other JI) (C0 : LC p l s m b c L xs D ad bd cI cL cM cB) (hi : 0 ≤ i.toInt) (hiL : i.toInt + 6 ≤ L) (hcv : cv + 2000 ≤ 600128) (hsv : sv + 112000 ≤ 7301098) (hJ3 : LJ p l e s m b below meth c D ad bd cI cM q Z JI i (cv + 2000) (sv + 112000) 1544) : LJ p l e s m b below meth c D ad bd cI cM q Z JI i cv sv 644 := by
  obtain ⟨hx, hb, hml, hown, ht, hg, hI, hJ, hXs, hbl, hst, hL⟩ := C0
  have hN : NW s := hg.2.2.2.2.1
  have hbA : ¬ SA s.heap.size b := Nat.not_le.mpr hbl
  intro μ ν nv sw H locs ls hJI hw hl
  obtain ⟨⟨hi1, hi2, hi3, hi4, hi5⟩, hv0, hv1, hv2, hv3, hv4, hv5⟩ := lx_ix hi hiL hL
  refine lv_aload_n hx hb dL_law_644 rfl (lv_at hl 1 rfl) ?_
  refine lv_aload_n hx hb dL_law_645 rfl (lv_at hl 0 rfl) ?_
  refine lv_iload hx hb dL_law_646 (lv_at hl 4 rfl) ?_
  refine lv_iconst (v := (1 : Int32)) hx hb dL_law_648 (by decide) ?_
  refine lv_iadd hx hb dL_law_649 ?_
  refine va_sld hx hb hXs hbl hbA hw.2.2.1 (i := (i + (1 : Int32))) hv1 dL_law_650 ?_
  refine lv_aload_n hx hb dL_law_651 rfl (lv_at hl 3 rfl) ?_
  refine LL_call hw hI (vx_runSX (own := "LeastreaderLaw") (As := [.ref (ad 0), .int (xs (i + (1 : Int32)).toNatClampNeg), .ref q]) (rest := []) ⟨hx, hb, hml, hown, ht⟩ (c_L_other hst q nv sw μ H.size (xs (i + (1 : Int32)).toNatClampNeg) (PW := fun k u => RW_other JI ν (xs (i + (1 : Int32)).toNatClampNeg) k u.2.1 u.1) (hGM μ ν nv (xs (i + (1 : Int32)).toNatClampNeg) hJI)) (vx_cwSW 3 ht (G_S q_725 q_726 q_45 q_727) rfl rfl rfl vd_43 ⟨Nat.le_of_ble_eq_true rfl, Nat.le_of_ble_eq_true rfl⟩) ⟨LB.blind, hg.lb hI hw⟩ rfl rfl hl.1 rfl (lv_room (Nat.le_of_ble_eq_true rfl)) dL_law_652 ⟨show cv + 1 ≤ 600128 by omega, show sv + 6 ≤ 7301098 by omega⟩) (fun r1 μ1 nv1 sw1 H locs hq1 hw => ?_)
  refine lv_istore (lv' := [(5, .int r1), (0, .ref b), (1, .ref (ad 0)), (2, .ref (bd 0)), (3, .ref q), (4, .int i)]) hx hb dL_law_655 hl (by decide) rfl (fun ls hl => ?_)
  refine lv_aload_n hx hb dL_law_657 rfl (lv_at hl 3 rfl) ?_
  refine lv_aload_n hx hb dL_law_658 rfl (lv_at hl 1 rfl) ?_
  refine lv_iload hx hb dL_law_659 (lv_at hl 5 rfl) ?_
  refine lv_iconst (v := (1 : Int32)) hx hb dL_law_661 (by decide) ?_
  refine lv_iadd hx hb dL_law_662 ?_
  refine va_sld hx hb hXs hbl hbA hw.2.2.1 (i := (i + (1 : Int32))) hv1 dL_law_663 ?_
  refine M_calli hw (LZ_MA hw) (va_runV (own := "LeastreaderLaw") (As := [.int (xs (i + (1 : Int32)).toNatClampNeg)]) (rest := []) ⟨hx, hb, hml, hown, ht⟩ (c_X11_other ν H.size (xs (i + (1 : Int32)).toNatClampNeg) hq1) (cwV 1 ht (G_V q_1421 q_1422 q_1423 q_56 q_1424) rfl rfl rfl ⟨rfl, vd_44⟩ ⟨Nat.le_of_ble_eq_true rfl, Nat.le_of_ble_eq_true rfl⟩) ⟨MB.blind, M_recv hg.2.1 hw, MB.pre hg.2.1 hJ hw va_P0 ne0⟩ rfl rfl hl.1 rfl (lv_room (Nat.le_of_ble_eq_true rfl)) dL_law_664 ⟨show cv + 1 + 0 ≤ 600128 by omega, show sv + 6 + 0 ≤ 7301098 by omega⟩) (fun r2 ν2 H locs hf2 hw => ?_)
  refine lv_istore (lv' := [(6, .int r2), (5, .int r1), (0, .ref b), (1, .ref (ad 0)), (2, .ref (bd 0)), (3, .ref q), (4, .int i)]) hx hb dL_law_667 hl (by decide) rfl (fun ls hl => ?_)
  refine lv_goto (tgt := 1544) hx hb dL_law_669 (by decide) ?_
  refine W.widen (show cv + 1 + 0 ≤ cv + 2000 by omega) (show sv + 6 + 0 ≤ sv + 112000 by omega) ?_
  exact hJ3 μ1 ν2 nv1 sw1 H locs ls hf2 hw (lv_sub hl [2, 3, 4, 5, 6] rfl)
set_option maxHeartbeats 4000000 in
set_option maxRecDepth 100000 in
theorem law_9 {p : Program} {l : Launch} {e : Env} {s : State} {m : MethodId} {b : Nat} {below : List Frame} {meth : Method} {c : Code} {L : Nat} {xs : Nat → Int32} {D : va_G} {ad bd : Nat → Nat} {cI cL cM cB : ClassId} {q : Nat} {Z : State → Prop} {JI : TMem → TMem → Prop} {i : Int32} {cv sv : Nat} (hRI : ∀ {μ ν : TMem}, JI μ ν → RI ν) (hGM : GM_grow JI) (C0 : LC p l s m b c L xs D ad bd cI cL cM cB) (hi : 0 ≤ i.toInt) (hiL : i.toInt + 6 ≤ L) (hcv : cv + 2000 ≤ 600128) (hsv : sv + 112000 ≤ 7301098) (hJ3 : LJ p l e s m b below meth c D ad bd cI cM q Z JI i (cv + 2000) (sv + 112000) 1544) : LJ p l e s m b below meth c D ad bd cI cM q Z JI i cv sv 672 := by
  obtain ⟨hx, hb, hml, hown, ht, hg, hI, hJ, hXs, hbl, hst, hL⟩ := C0
  have hN : NW s := hg.2.2.2.2.1
  have hbA : ¬ SA s.heap.size b := Nat.not_le.mpr hbl
  intro μ ν nv sw H locs ls hJI hw hl
  obtain ⟨⟨hi1, hi2, hi3, hi4, hi5⟩, hv0, hv1, hv2, hv3, hv4, hv5⟩ := lx_ix hi hiL hL
  refine lv_aload_n hx hb dL_law_672 rfl (lv_at hl 1 rfl) ?_
  refine lv_aload_n hx hb dL_law_673 rfl (lv_at hl 0 rfl) ?_
  refine lv_iload hx hb dL_law_674 (lv_at hl 4 rfl) ?_
  refine lv_iconst (v := (1 : Int32)) hx hb dL_law_676 (by decide) ?_
  refine lv_iadd hx hb dL_law_677 ?_
  refine va_sld hx hb hXs hbl hbA hw.2.2.1 (i := (i + (1 : Int32))) hv1 dL_law_678 ?_
  refine lv_aload_n hx hb dL_law_679 rfl (lv_at hl 3 rfl) ?_
  refine LL_call hw hI (vx_runSX (own := "LeastreaderLaw") (As := [.ref (ad 0), .int (xs (i + (1 : Int32)).toNatClampNeg), .ref q]) (rest := []) ⟨hx, hb, hml, hown, ht⟩ (c_L_grow hst q nv sw μ H.size (xs (i + (1 : Int32)).toNatClampNeg) (PW := fun k u => RW_grow JI ν (xs (i + (1 : Int32)).toNatClampNeg) k u.2.1 u.1) (hGM μ ν nv (xs (i + (1 : Int32)).toNatClampNeg) hJI)) (vx_cwSW 3 ht (G_S q_740 q_741 q_45 q_742) rfl rfl rfl vd_45 ⟨Nat.le_of_ble_eq_true rfl, Nat.le_of_ble_eq_true rfl⟩) ⟨LB.blind, hg.lb hI hw⟩ rfl rfl hl.1 rfl (lv_room (Nat.le_of_ble_eq_true rfl)) dL_law_680 ⟨show cv + 1 ≤ 600128 by omega, show sv + 6 ≤ 7301098 by omega⟩) (fun r1 μ1 nv1 sw1 H locs hq1 hw => ?_)
  refine lv_istore (lv' := [(5, .int r1), (0, .ref b), (1, .ref (ad 0)), (2, .ref (bd 0)), (3, .ref q), (4, .int i)]) hx hb dL_law_683 hl (by decide) rfl (fun ls hl => ?_)
  refine lv_aload_n hx hb dL_law_685 rfl (lv_at hl 3 rfl) ?_
  refine lv_aload_n hx hb dL_law_686 rfl (lv_at hl 1 rfl) ?_
  refine lv_iload hx hb dL_law_687 (lv_at hl 5 rfl) ?_
  refine lv_iconst (v := (1 : Int32)) hx hb dL_law_689 (by decide) ?_
  refine lv_iadd hx hb dL_law_690 ?_
  refine va_sld hx hb hXs hbl hbA hw.2.2.1 (i := (i + (1 : Int32))) hv1 dL_law_691 ?_
  refine M_calli hw (LZ_MA hw) (va_runV (own := "LeastreaderLaw") (As := [.int (xs (i + (1 : Int32)).toNatClampNeg)]) (rest := []) ⟨hx, hb, hml, hown, ht⟩ (c_X11_grow ν H.size (xs (i + (1 : Int32)).toNatClampNeg) hq1) (cwV 1 ht (G_V q_1433 q_1434 q_1435 q_56 q_1436) rfl rfl rfl ⟨rfl, vd_46⟩ ⟨Nat.le_of_ble_eq_true rfl, Nat.le_of_ble_eq_true rfl⟩) ⟨MB.blind, M_recv hg.2.1 hw, MB.pre hg.2.1 hJ hw va_P0 ne0⟩ rfl rfl hl.1 rfl (lv_room (Nat.le_of_ble_eq_true rfl)) dL_law_692 ⟨show cv + 1 + 0 ≤ 600128 by omega, show sv + 6 + 0 ≤ 7301098 by omega⟩) (fun r2 ν2 H locs hf2 hw => ?_)
  refine lv_istore (lv' := [(6, .int r2), (5, .int r1), (0, .ref b), (1, .ref (ad 0)), (2, .ref (bd 0)), (3, .ref q), (4, .int i)]) hx hb dL_law_695 hl (by decide) rfl (fun ls hl => ?_)
  refine lv_goto (tgt := 1544) hx hb dL_law_697 (by decide) ?_
  refine W.widen (show cv + 1 + 0 ≤ cv + 2000 by omega) (show sv + 6 + 0 ≤ sv + 112000 by omega) ?_
  exact hJ3 μ1 ν2 nv1 sw1 H locs ls hf2 hw (lv_sub hl [2, 3, 4, 5, 6] rfl)
set_option maxHeartbeats 4000000 in
set_option maxRecDepth 100000 in
theorem law_10 {p : Program} {l : Launch} {e : Env} {s : State} {m : MethodId} {b : Nat} {below : List Frame} {meth : Method} {c : Code} {L : Nat} {xs : Nat → Int32} {D : va_G} {ad bd : Nat → Nat} {cI cL cM cB : ClassId} {q : Nat} {Z : State → Prop} {JI : TMem → TMem → Prop} {i : Int32} {cv sv : Nat} (hRI : ∀ {μ ν : TMem}, JI μ ν → RI ν) (hGM : GM_drop JI) (C0 : LC p l s m b c L xs D ad bd cI cL cM cB) (hi : 0 ≤ i.toInt) (hiL : i.toInt + 6 ≤ L) (hcv : cv + 2000 ≤ 600128) (hsv : sv + 112000 ≤ 7301098) (hJ3 : LJ p l e s m b below meth c D ad bd cI cM q Z JI i (cv + 2000) (sv + 112000) 1544) : LJ p l e s m b below meth c D ad bd cI cM q Z JI i cv sv 700 := by
  obtain ⟨hx, hb, hml, hown, ht, hg, hI, hJ, hXs, hbl, hst, hL⟩ := C0
  have hN : NW s := hg.2.2.2.2.1
  have hbA : ¬ SA s.heap.size b := Nat.not_le.mpr hbl
  intro μ ν nv sw H locs ls hJI hw hl
  obtain ⟨⟨hi1, hi2, hi3, hi4, hi5⟩, hv0, hv1, hv2, hv3, hv4, hv5⟩ := lx_ix hi hiL hL
  refine lv_aload_n hx hb dL_law_700 rfl (lv_at hl 1 rfl) ?_
  refine lv_aload_n hx hb dL_law_701 rfl (lv_at hl 0 rfl) ?_
  refine lv_iload hx hb dL_law_702 (lv_at hl 4 rfl) ?_
  refine lv_iconst (v := (1 : Int32)) hx hb dL_law_704 (by decide) ?_
  refine lv_iadd hx hb dL_law_705 ?_
  refine va_sld hx hb hXs hbl hbA hw.2.2.1 (i := (i + (1 : Int32))) hv1 dL_law_706 ?_
  refine lv_aload_n hx hb dL_law_707 rfl (lv_at hl 0 rfl) ?_
  refine lv_iload hx hb dL_law_708 (lv_at hl 4 rfl) ?_
  refine lv_iconst (v := (2 : Int32)) hx hb dL_law_710 (by decide) ?_
  refine lv_iadd hx hb dL_law_711 ?_
  refine va_sld hx hb hXs hbl hbA hw.2.2.1 (i := (i + (2 : Int32))) hv2 dL_law_712 ?_
  refine lv_aload_n hx hb dL_law_713 rfl (lv_at hl 3 rfl) ?_
  refine LL_call hw hI (vx_runSX (own := "LeastreaderLaw") (As := [.ref (ad 0), .int (xs (i + (1 : Int32)).toNatClampNeg), .int (xs (i + (2 : Int32)).toNatClampNeg), .ref q]) (rest := []) ⟨hx, hb, hml, hown, ht⟩ (c_L_drop hst q nv sw μ H.size (xs (i + (1 : Int32)).toNatClampNeg) (xs (i + (2 : Int32)).toNatClampNeg) (PW := fun k u => RW_drop JI ν (xs (i + (1 : Int32)).toNatClampNeg) (xs (i + (2 : Int32)).toNatClampNeg) k u.2.1 u.1) (hGM μ ν nv (xs (i + (1 : Int32)).toNatClampNeg) (xs (i + (2 : Int32)).toNatClampNeg) hJI)) (vx_cwSW 4 ht (G_S q_748 q_749 q_45 q_750) rfl rfl rfl vd_47 ⟨Nat.le_of_ble_eq_true rfl, Nat.le_of_ble_eq_true rfl⟩) ⟨LB.blind, hg.lb hI hw⟩ rfl rfl hl.1 rfl (lv_room (Nat.le_of_ble_eq_true rfl)) dL_law_714 ⟨show cv + 2 ≤ 600128 by omega, show sv + 12 ≤ 7301098 by omega⟩) (fun r1 μ1 nv1 sw1 H locs hq1 hw => ?_)
  refine lv_istore (lv' := [(5, .int r1), (0, .ref b), (1, .ref (ad 0)), (2, .ref (bd 0)), (3, .ref q), (4, .int i)]) hx hb dL_law_717 hl (by decide) rfl (fun ls hl => ?_)
  refine lv_aload_n hx hb dL_law_719 rfl (lv_at hl 3 rfl) ?_
  refine lv_aload_n hx hb dL_law_720 rfl (lv_at hl 1 rfl) ?_
  refine lv_iload hx hb dL_law_721 (lv_at hl 5 rfl) ?_
  refine lv_iconst (v := (1 : Int32)) hx hb dL_law_723 (by decide) ?_
  refine lv_iadd hx hb dL_law_724 ?_
  refine va_sld hx hb hXs hbl hbA hw.2.2.1 (i := (i + (1 : Int32))) hv1 dL_law_725 ?_
  refine lv_aload_n hx hb dL_law_726 rfl (lv_at hl 1 rfl) ?_
  refine lv_iload hx hb dL_law_727 (lv_at hl 5 rfl) ?_
  refine lv_iconst (v := (2 : Int32)) hx hb dL_law_729 (by decide) ?_
  refine lv_iadd hx hb dL_law_730 ?_
  refine va_sld hx hb hXs hbl hbA hw.2.2.1 (i := (i + (2 : Int32))) hv2 dL_law_731 ?_
  refine M_calli hw (LZ_MA hw) (va_runV (own := "LeastreaderLaw") (As := [.int (xs (i + (1 : Int32)).toNatClampNeg), .int (xs (i + (2 : Int32)).toNatClampNeg)]) (rest := []) ⟨hx, hb, hml, hown, ht⟩ (c_X11_drop ν H.size (xs (i + (1 : Int32)).toNatClampNeg) (xs (i + (2 : Int32)).toNatClampNeg) hq1) (cwV 2 ht (G_V q_1437 q_1438 q_1439 q_56 q_1440) rfl rfl rfl ⟨rfl, vd_48⟩ ⟨Nat.le_of_ble_eq_true rfl, Nat.le_of_ble_eq_true rfl⟩) ⟨MB.blind, M_recv hg.2.1 hw, MB.pre hg.2.1 hJ hw va_P0 ne0⟩ rfl rfl hl.1 rfl (lv_room (Nat.le_of_ble_eq_true rfl)) dL_law_732 ⟨show cv + 2 + 0 ≤ 600128 by omega, show sv + 12 + 0 ≤ 7301098 by omega⟩) (fun r2 ν2 H locs hf2 hw => ?_)
  refine lv_istore (lv' := [(6, .int r2), (5, .int r1), (0, .ref b), (1, .ref (ad 0)), (2, .ref (bd 0)), (3, .ref q), (4, .int i)]) hx hb dL_law_735 hl (by decide) rfl (fun ls hl => ?_)
  refine lv_goto (tgt := 1544) hx hb dL_law_737 (by decide) ?_
  refine W.widen (show cv + 2 + 0 ≤ cv + 2000 by omega) (show sv + 12 + 0 ≤ sv + 112000 by omega) ?_
  exact hJ3 μ1 ν2 nv1 sw1 H locs ls hf2 hw (lv_sub hl [2, 3, 4, 5, 6] rfl)
end
/-! part 9o.law2 -/
section
set_option maxHeartbeats 4000000 in
set_option maxRecDepth 100000 in
theorem law_11 {p : Program} {l : Launch} {e : Env} {s : State} {m : MethodId} {b : Nat} {below : List Frame} {meth : Method} {c : Code} {L : Nat} {xs : Nat → Int32} {D : va_G} {ad bd : Nat → Nat} {cI cL cM cB : ClassId} {q : Nat} {Z : State → Prop} {JI : TMem → TMem → Prop} {i : Int32} {cv sv : Nat} (hRI : ∀ {μ ν : TMem}, JI μ ν → RI ν) (hGM : GM_make JI) (C0 : LC p l s m b c L xs D ad bd cI cL cM cB) (hi : 0 ≤ i.toInt) (hiL : i.toInt + 6 ≤ L) (hcv : cv + 2000 ≤ 600128) (hsv : sv + 112000 ≤ 7301098) (hJ3 : LJ p l e s m b below meth c D ad bd cI cM q Z JI i (cv + 2000) (sv + 112000) 1544) : LJ p l e s m b below meth c D ad bd cI cM q Z JI i cv sv 740 := by
  obtain ⟨hx, hb, hml, hown, ht, hg, hI, hJ, hXs, hbl, hst, hL⟩ := C0
  have hN : NW s := hg.2.2.2.2.1
  have hbA : ¬ SA s.heap.size b := Nat.not_le.mpr hbl
  intro μ ν nv sw H locs ls hJI hw hl
  obtain ⟨⟨hi1, hi2, hi3, hi4, hi5⟩, hv0, hv1, hv2, hv3, hv4, hv5⟩ := lx_ix hi hiL hL
  refine lv_aload_n hx hb dL_law_740 rfl (lv_at hl 1 rfl) ?_
  refine lv_aload_n hx hb dL_law_741 rfl (lv_at hl 0 rfl) ?_
  refine lv_iload hx hb dL_law_742 (lv_at hl 4 rfl) ?_
  refine lv_iconst (v := (1 : Int32)) hx hb dL_law_744 (by decide) ?_
  refine lv_iadd hx hb dL_law_745 ?_
  refine va_sld hx hb hXs hbl hbA hw.2.2.1 (i := (i + (1 : Int32))) hv1 dL_law_746 ?_
  refine lv_aload_n hx hb dL_law_747 rfl (lv_at hl 0 rfl) ?_
  refine lv_iload hx hb dL_law_748 (lv_at hl 4 rfl) ?_
  refine lv_iconst (v := (2 : Int32)) hx hb dL_law_750 (by decide) ?_
  refine lv_iadd hx hb dL_law_751 ?_
  refine va_sld hx hb hXs hbl hbA hw.2.2.1 (i := (i + (2 : Int32))) hv2 dL_law_752 ?_
  refine lv_if_eq (tgt := 760) hx hb dL_law_753 (by decide) (fun c9 => ?_) (fun c9 => ?_)
  · have kb1 := c9
    refine lv_iconst (v := (0 : Int32)) hx hb dL_law_760 (by decide) ?_
    refine lv_aload_n hx hb dL_law_761 rfl (lv_at hl 0 rfl) ?_
    refine lv_iload hx hb dL_law_762 (lv_at hl 4 rfl) ?_
    refine lv_iconst (v := (3 : Int32)) hx hb dL_law_764 (by decide) ?_
    refine lv_iadd hx hb dL_law_765 ?_
    refine va_sld hx hb hXs hbl hbA hw.2.2.1 (i := (i + (3 : Int32))) hv3 dL_law_766 ?_
    refine lv_aload_n hx hb dL_law_767 rfl (lv_at hl 3 rfl) ?_
    refine LL_call hw hI (vx_runSX (own := "LeastreaderLaw") (As := [.ref (ad 0), .int (xs (i + (1 : Int32)).toNatClampNeg), .int (0 : Int32), .int (xs (i + (3 : Int32)).toNatClampNeg), .ref q]) (rest := []) ⟨hx, hb, hml, hown, ht⟩ (c_L_make hst q nv sw μ H.size (xs (i + (1 : Int32)).toNatClampNeg) (0 : Int32) (xs (i + (3 : Int32)).toNatClampNeg) (PW := fun k u => RW_make JI ν (xs (i + (1 : Int32)).toNatClampNeg) (0 : Int32) (xs (i + (3 : Int32)).toNatClampNeg) k u.2.1 u.1) (hGM μ ν nv (xs (i + (1 : Int32)).toNatClampNeg) (0 : Int32) (xs (i + (3 : Int32)).toNatClampNeg) hJI)) (vx_cwSW 5 ht (G_S q_762 q_763 q_45 q_764) rfl rfl rfl vd_49 ⟨Nat.le_of_ble_eq_true rfl, Nat.le_of_ble_eq_true rfl⟩) ⟨LB.blind, hg.lb hI hw⟩ rfl rfl hl.1 rfl (lv_room (Nat.le_of_ble_eq_true rfl)) dL_law_768 ⟨show cv + 2 ≤ 600128 by omega, show sv + 12 ≤ 7301098 by omega⟩) (fun r2 μ2 nv2 sw2 H locs hq2 hw => ?_)
    refine lv_istore (lv' := [(5, .int r2), (0, .ref b), (1, .ref (ad 0)), (2, .ref (bd 0)), (3, .ref q), (4, .int i)]) hx hb dL_law_771 hl (by decide) rfl (fun ls hl => ?_)
    refine lv_aload_n hx hb dL_law_773 rfl (lv_at hl 3 rfl) ?_
    refine lv_aload_n hx hb dL_law_774 rfl (lv_at hl 1 rfl) ?_
    refine lv_iload hx hb dL_law_775 (lv_at hl 5 rfl) ?_
    refine lv_iconst (v := (1 : Int32)) hx hb dL_law_777 (by decide) ?_
    refine lv_iadd hx hb dL_law_778 ?_
    refine va_sld hx hb hXs hbl hbA hw.2.2.1 (i := (i + (1 : Int32))) hv1 dL_law_779 ?_
    refine lv_aload_n hx hb dL_law_780 rfl (lv_at hl 1 rfl) ?_
    refine lv_iload hx hb dL_law_781 (lv_at hl 5 rfl) ?_
    refine lv_iconst (v := (2 : Int32)) hx hb dL_law_783 (by decide) ?_
    refine lv_iadd hx hb dL_law_784 ?_
    refine va_sld hx hb hXs hbl hbA hw.2.2.1 (i := (i + (2 : Int32))) hv2 dL_law_785 ?_
    refine lv_if_eq (tgt := 793) hx hb dL_law_786 (by decide) (fun c9 => ?_) (fun c9 => absurd kb1 c9)
    refine lv_iconst (v := (0 : Int32)) hx hb dL_law_793 (by decide) ?_
    refine lv_aload_n hx hb dL_law_794 rfl (lv_at hl 1 rfl) ?_
    refine lv_iload hx hb dL_law_795 (lv_at hl 5 rfl) ?_
    refine lv_iconst (v := (3 : Int32)) hx hb dL_law_797 (by decide) ?_
    refine lv_iadd hx hb dL_law_798 ?_
    refine va_sld hx hb hXs hbl hbA hw.2.2.1 (i := (i + (3 : Int32))) hv3 dL_law_799 ?_
    refine M_calli hw (LZ_MA hw) (va_runV (own := "LeastreaderLaw") (As := [.int (xs (i + (1 : Int32)).toNatClampNeg), .int (0 : Int32), .int (xs (i + (3 : Int32)).toNatClampNeg)]) (rest := []) ⟨hx, hb, hml, hown, ht⟩ (c_X11_make ν H.size (xs (i + (1 : Int32)).toNatClampNeg) (0 : Int32) (xs (i + (3 : Int32)).toNatClampNeg) hq2) (cwV 3 ht (G_V q_1444 q_1445 q_1446 q_56 q_1447) rfl rfl rfl ⟨rfl, vd_50⟩ ⟨Nat.le_of_ble_eq_true rfl, Nat.le_of_ble_eq_true rfl⟩) ⟨MB.blind, M_recv hg.2.1 hw, MB.pre hg.2.1 hJ hw va_P0 ne0⟩ rfl rfl hl.1 rfl (lv_room (Nat.le_of_ble_eq_true rfl)) dL_law_800 ⟨show cv + 2 + 41 ≤ 600128 by omega, show sv + 12 + 1685 ≤ 7301098 by omega⟩) (fun r3 ν3 H locs hf3 hw => ?_)
    refine lv_istore (lv' := [(6, .int r3), (5, .int r2), (0, .ref b), (1, .ref (ad 0)), (2, .ref (bd 0)), (3, .ref q), (4, .int i)]) hx hb dL_law_803 hl (by decide) rfl (fun ls hl => ?_)
    refine lv_goto (tgt := 1544) hx hb dL_law_805 (by decide) ?_
    refine W.widen (show cv + 2 + 41 ≤ cv + 2000 by omega) (show sv + 12 + 1685 ≤ sv + 112000 by omega) ?_
    exact hJ3 μ2 ν3 nv2 sw2 H locs ls hf3 hw (lv_sub hl [2, 3, 4, 5, 6] rfl)
  · have kb1 := c9
    refine lv_iconst (v := (1 : Int32)) hx hb dL_law_756 (by decide) ?_
    refine lv_goto (tgt := 761) hx hb dL_law_757 (by decide) ?_
    refine lv_aload_n hx hb dL_law_761 rfl (lv_at hl 0 rfl) ?_
    refine lv_iload hx hb dL_law_762 (lv_at hl 4 rfl) ?_
    refine lv_iconst (v := (3 : Int32)) hx hb dL_law_764 (by decide) ?_
    refine lv_iadd hx hb dL_law_765 ?_
    refine va_sld hx hb hXs hbl hbA hw.2.2.1 (i := (i + (3 : Int32))) hv3 dL_law_766 ?_
    refine lv_aload_n hx hb dL_law_767 rfl (lv_at hl 3 rfl) ?_
    refine LL_call hw hI (vx_runSX (own := "LeastreaderLaw") (As := [.ref (ad 0), .int (xs (i + (1 : Int32)).toNatClampNeg), .int (1 : Int32), .int (xs (i + (3 : Int32)).toNatClampNeg), .ref q]) (rest := []) ⟨hx, hb, hml, hown, ht⟩ (c_L_make hst q nv sw μ H.size (xs (i + (1 : Int32)).toNatClampNeg) (1 : Int32) (xs (i + (3 : Int32)).toNatClampNeg) (PW := fun k u => RW_make JI ν (xs (i + (1 : Int32)).toNatClampNeg) (1 : Int32) (xs (i + (3 : Int32)).toNatClampNeg) k u.2.1 u.1) (hGM μ ν nv (xs (i + (1 : Int32)).toNatClampNeg) (1 : Int32) (xs (i + (3 : Int32)).toNatClampNeg) hJI)) (vx_cwSW 5 ht (G_S q_762 q_763 q_45 q_764) rfl rfl rfl vd_49 ⟨Nat.le_of_ble_eq_true rfl, Nat.le_of_ble_eq_true rfl⟩) ⟨LB.blind, hg.lb hI hw⟩ rfl rfl hl.1 rfl (lv_room (Nat.le_of_ble_eq_true rfl)) dL_law_768 ⟨show cv + 2 ≤ 600128 by omega, show sv + 12 ≤ 7301098 by omega⟩) (fun r4 μ4 nv4 sw4 H locs hq4 hw => ?_)
    refine lv_istore (lv' := [(5, .int r4), (0, .ref b), (1, .ref (ad 0)), (2, .ref (bd 0)), (3, .ref q), (4, .int i)]) hx hb dL_law_771 hl (by decide) rfl (fun ls hl => ?_)
    refine lv_aload_n hx hb dL_law_773 rfl (lv_at hl 3 rfl) ?_
    refine lv_aload_n hx hb dL_law_774 rfl (lv_at hl 1 rfl) ?_
    refine lv_iload hx hb dL_law_775 (lv_at hl 5 rfl) ?_
    refine lv_iconst (v := (1 : Int32)) hx hb dL_law_777 (by decide) ?_
    refine lv_iadd hx hb dL_law_778 ?_
    refine va_sld hx hb hXs hbl hbA hw.2.2.1 (i := (i + (1 : Int32))) hv1 dL_law_779 ?_
    refine lv_aload_n hx hb dL_law_780 rfl (lv_at hl 1 rfl) ?_
    refine lv_iload hx hb dL_law_781 (lv_at hl 5 rfl) ?_
    refine lv_iconst (v := (2 : Int32)) hx hb dL_law_783 (by decide) ?_
    refine lv_iadd hx hb dL_law_784 ?_
    refine va_sld hx hb hXs hbl hbA hw.2.2.1 (i := (i + (2 : Int32))) hv2 dL_law_785 ?_
    refine lv_if_eq (tgt := 793) hx hb dL_law_786 (by decide) (fun c9 => absurd c9 kb1) (fun c9 => ?_)
    refine lv_iconst (v := (1 : Int32)) hx hb dL_law_789 (by decide) ?_
    refine lv_goto (tgt := 794) hx hb dL_law_790 (by decide) ?_
    refine lv_aload_n hx hb dL_law_794 rfl (lv_at hl 1 rfl) ?_
    refine lv_iload hx hb dL_law_795 (lv_at hl 5 rfl) ?_
    refine lv_iconst (v := (3 : Int32)) hx hb dL_law_797 (by decide) ?_
    refine lv_iadd hx hb dL_law_798 ?_
    refine va_sld hx hb hXs hbl hbA hw.2.2.1 (i := (i + (3 : Int32))) hv3 dL_law_799 ?_
    refine M_calli hw (LZ_MA hw) (va_runV (own := "LeastreaderLaw") (As := [.int (xs (i + (1 : Int32)).toNatClampNeg), .int (1 : Int32), .int (xs (i + (3 : Int32)).toNatClampNeg)]) (rest := []) ⟨hx, hb, hml, hown, ht⟩ (c_X11_make ν H.size (xs (i + (1 : Int32)).toNatClampNeg) (1 : Int32) (xs (i + (3 : Int32)).toNatClampNeg) hq4) (cwV 3 ht (G_V q_1444 q_1445 q_1446 q_56 q_1447) rfl rfl rfl ⟨rfl, vd_50⟩ ⟨Nat.le_of_ble_eq_true rfl, Nat.le_of_ble_eq_true rfl⟩) ⟨MB.blind, M_recv hg.2.1 hw, MB.pre hg.2.1 hJ hw va_P0 ne0⟩ rfl rfl hl.1 rfl (lv_room (Nat.le_of_ble_eq_true rfl)) dL_law_800 ⟨show cv + 2 + 41 ≤ 600128 by omega, show sv + 12 + 1685 ≤ 7301098 by omega⟩) (fun r5 ν5 H locs hf5 hw => ?_)
    refine lv_istore (lv' := [(6, .int r5), (5, .int r4), (0, .ref b), (1, .ref (ad 0)), (2, .ref (bd 0)), (3, .ref q), (4, .int i)]) hx hb dL_law_803 hl (by decide) rfl (fun ls hl => ?_)
    refine lv_goto (tgt := 1544) hx hb dL_law_805 (by decide) ?_
    refine W.widen (show cv + 2 + 41 ≤ cv + 2000 by omega) (show sv + 12 + 1685 ≤ sv + 112000 by omega) ?_
    exact hJ3 μ4 ν5 nv4 sw4 H locs ls hf5 hw (lv_sub hl [2, 3, 4, 5, 6] rfl)
set_option maxHeartbeats 4000000 in
set_option maxRecDepth 100000 in
theorem law_12 {p : Program} {l : Launch} {e : Env} {s : State} {m : MethodId} {b : Nat} {below : List Frame} {meth : Method} {c : Code} {L : Nat} {xs : Nat → Int32} {D : va_G} {ad bd : Nat → Nat} {cI cL cM cB : ClassId} {q : Nat} {Z : State → Prop} {JI : TMem → TMem → Prop} {i : Int32} {cv sv : Nat} (hRI : ∀ {μ ν : TMem}, JI μ ν → RI ν) (hGM : GM_combine JI) (C0 : LC p l s m b c L xs D ad bd cI cL cM cB) (hi : 0 ≤ i.toInt) (hiL : i.toInt + 6 ≤ L) (hcv : cv + 2000 ≤ 600128) (hsv : sv + 112000 ≤ 7301098) (hJ3 : LJ p l e s m b below meth c D ad bd cI cM q Z JI i (cv + 2000) (sv + 112000) 1544) : LJ p l e s m b below meth c D ad bd cI cM q Z JI i cv sv 808 := by
  obtain ⟨hx, hb, hml, hown, ht, hg, hI, hJ, hXs, hbl, hst, hL⟩ := C0
  have hN : NW s := hg.2.2.2.2.1
  have hbA : ¬ SA s.heap.size b := Nat.not_le.mpr hbl
  intro μ ν nv sw H locs ls hJI hw hl
  obtain ⟨⟨hi1, hi2, hi3, hi4, hi5⟩, hv0, hv1, hv2, hv3, hv4, hv5⟩ := lx_ix hi hiL hL
  refine lv_aload_n hx hb dL_law_808 rfl (lv_at hl 1 rfl) ?_
  refine lv_aload_n hx hb dL_law_809 rfl (lv_at hl 0 rfl) ?_
  refine lv_iload hx hb dL_law_810 (lv_at hl 4 rfl) ?_
  refine lv_iconst (v := (1 : Int32)) hx hb dL_law_812 (by decide) ?_
  refine lv_iadd hx hb dL_law_813 ?_
  refine va_sld hx hb hXs hbl hbA hw.2.2.1 (i := (i + (1 : Int32))) hv1 dL_law_814 ?_
  refine lv_aload_n hx hb dL_law_815 rfl (lv_at hl 0 rfl) ?_
  refine lv_iload hx hb dL_law_816 (lv_at hl 4 rfl) ?_
  refine lv_iconst (v := (2 : Int32)) hx hb dL_law_818 (by decide) ?_
  refine lv_iadd hx hb dL_law_819 ?_
  refine va_sld hx hb hXs hbl hbA hw.2.2.1 (i := (i + (2 : Int32))) hv2 dL_law_820 ?_
  refine lv_aload_n hx hb dL_law_821 rfl (lv_at hl 0 rfl) ?_
  refine lv_iload hx hb dL_law_822 (lv_at hl 4 rfl) ?_
  refine lv_iconst (v := (3 : Int32)) hx hb dL_law_824 (by decide) ?_
  refine lv_iadd hx hb dL_law_825 ?_
  refine va_sld hx hb hXs hbl hbA hw.2.2.1 (i := (i + (3 : Int32))) hv3 dL_law_826 ?_
  refine lv_aload_n hx hb dL_law_827 rfl (lv_at hl 0 rfl) ?_
  refine lv_iload hx hb dL_law_828 (lv_at hl 4 rfl) ?_
  refine lv_iconst (v := (4 : Int32)) hx hb dL_law_830 (by decide) ?_
  refine lv_iadd hx hb dL_law_831 ?_
  refine va_sld hx hb hXs hbl hbA hw.2.2.1 (i := (i + (4 : Int32))) hv4 dL_law_832 ?_
  refine lv_aload_n hx hb dL_law_833 rfl (lv_at hl 3 rfl) ?_
  refine LL_call hw hI (vx_runSX (own := "LeastreaderLaw") (As := [.ref (ad 0), .int (xs (i + (1 : Int32)).toNatClampNeg), .int (xs (i + (2 : Int32)).toNatClampNeg), .int (xs (i + (3 : Int32)).toNatClampNeg), .int (xs (i + (4 : Int32)).toNatClampNeg), .ref q]) (rest := []) ⟨hx, hb, hml, hown, ht⟩ (c_L_combine hst q nv sw μ H.size (xs (i + (1 : Int32)).toNatClampNeg) (xs (i + (2 : Int32)).toNatClampNeg) (xs (i + (3 : Int32)).toNatClampNeg) (xs (i + (4 : Int32)).toNatClampNeg) (PW := fun k u => RW_combine JI ν (xs (i + (1 : Int32)).toNatClampNeg) (xs (i + (2 : Int32)).toNatClampNeg) (xs (i + (3 : Int32)).toNatClampNeg) (xs (i + (4 : Int32)).toNatClampNeg) k u.2.1 u.1) (hGM μ ν nv (xs (i + (1 : Int32)).toNatClampNeg) (xs (i + (2 : Int32)).toNatClampNeg) (xs (i + (3 : Int32)).toNatClampNeg) (xs (i + (4 : Int32)).toNatClampNeg) hJI)) (vx_cwSW 6 ht (G_S q_773 q_774 q_45 q_775) rfl rfl rfl vd_51 ⟨Nat.le_of_ble_eq_true rfl, Nat.le_of_ble_eq_true rfl⟩) ⟨LB.blind, hg.lb hI hw⟩ rfl rfl hl.1 rfl (lv_room (Nat.le_of_ble_eq_true rfl)) dL_law_834 ⟨show cv + 4 ≤ 600128 by omega, show sv + 24 ≤ 7301098 by omega⟩) (fun r1 μ1 nv1 sw1 H locs hq1 hw => ?_)
  refine lv_istore (lv' := [(5, .int r1), (0, .ref b), (1, .ref (ad 0)), (2, .ref (bd 0)), (3, .ref q), (4, .int i)]) hx hb dL_law_837 hl (by decide) rfl (fun ls hl => ?_)
  refine lv_aload_n hx hb dL_law_839 rfl (lv_at hl 3 rfl) ?_
  refine lv_aload_n hx hb dL_law_840 rfl (lv_at hl 1 rfl) ?_
  refine lv_iload hx hb dL_law_841 (lv_at hl 5 rfl) ?_
  refine lv_iconst (v := (1 : Int32)) hx hb dL_law_843 (by decide) ?_
  refine lv_iadd hx hb dL_law_844 ?_
  refine va_sld hx hb hXs hbl hbA hw.2.2.1 (i := (i + (1 : Int32))) hv1 dL_law_845 ?_
  refine lv_aload_n hx hb dL_law_846 rfl (lv_at hl 1 rfl) ?_
  refine lv_iload hx hb dL_law_847 (lv_at hl 5 rfl) ?_
  refine lv_iconst (v := (2 : Int32)) hx hb dL_law_849 (by decide) ?_
  refine lv_iadd hx hb dL_law_850 ?_
  refine va_sld hx hb hXs hbl hbA hw.2.2.1 (i := (i + (2 : Int32))) hv2 dL_law_851 ?_
  refine lv_aload_n hx hb dL_law_852 rfl (lv_at hl 1 rfl) ?_
  refine lv_iload hx hb dL_law_853 (lv_at hl 5 rfl) ?_
  refine lv_iconst (v := (3 : Int32)) hx hb dL_law_855 (by decide) ?_
  refine lv_iadd hx hb dL_law_856 ?_
  refine va_sld hx hb hXs hbl hbA hw.2.2.1 (i := (i + (3 : Int32))) hv3 dL_law_857 ?_
  refine lv_aload_n hx hb dL_law_858 rfl (lv_at hl 1 rfl) ?_
  refine lv_iload hx hb dL_law_859 (lv_at hl 5 rfl) ?_
  refine lv_iconst (v := (4 : Int32)) hx hb dL_law_861 (by decide) ?_
  refine lv_iadd hx hb dL_law_862 ?_
  refine va_sld hx hb hXs hbl hbA hw.2.2.1 (i := (i + (4 : Int32))) hv4 dL_law_863 ?_
  refine M_calli hw (LZ_MA hw) (va_runV (own := "LeastreaderLaw") (As := [.int (xs (i + (1 : Int32)).toNatClampNeg), .int (xs (i + (2 : Int32)).toNatClampNeg), .int (xs (i + (3 : Int32)).toNatClampNeg), .int (xs (i + (4 : Int32)).toNatClampNeg)]) (rest := []) ⟨hx, hb, hml, hown, ht⟩ (c_X11_combine ν H.size (xs (i + (1 : Int32)).toNatClampNeg) (xs (i + (2 : Int32)).toNatClampNeg) (xs (i + (3 : Int32)).toNatClampNeg) (xs (i + (4 : Int32)).toNatClampNeg) hq1) (cwV 4 ht (G_V q_1479 q_1480 q_1481 q_56 q_1482) rfl rfl rfl ⟨rfl, vd_52⟩ ⟨Nat.le_of_ble_eq_true rfl, Nat.le_of_ble_eq_true rfl⟩) ⟨MB.blind, M_recv hg.2.1 hw, MB.pre hg.2.1 hJ hw va_P0 ne0⟩ rfl rfl hl.1 rfl (lv_room (Nat.le_of_ble_eq_true rfl)) dL_law_864 ⟨show cv + 4 + 47 ≤ 600128 by omega, show sv + 24 + 2726 ≤ 7301098 by omega⟩) (fun r2 ν2 H locs hf2 hw => ?_)
  refine lv_istore (lv' := [(6, .int r2), (5, .int r1), (0, .ref b), (1, .ref (ad 0)), (2, .ref (bd 0)), (3, .ref q), (4, .int i)]) hx hb dL_law_867 hl (by decide) rfl (fun ls hl => ?_)
  refine lv_goto (tgt := 1544) hx hb dL_law_869 (by decide) ?_
  refine W.widen (show cv + 4 + 47 ≤ cv + 2000 by omega) (show sv + 24 + 2726 ≤ sv + 112000 by omega) ?_
  exact hJ3 μ1 ν2 nv1 sw1 H locs ls hf2 hw (lv_sub hl [2, 3, 4, 5, 6] rfl)
set_option maxHeartbeats 4000000 in
set_option maxRecDepth 100000 in
theorem law_13 {p : Program} {l : Launch} {e : Env} {s : State} {m : MethodId} {b : Nat} {below : List Frame} {meth : Method} {c : Code} {L : Nat} {xs : Nat → Int32} {D : va_G} {ad bd : Nat → Nat} {cI cL cM cB : ClassId} {q : Nat} {Z : State → Prop} {JI : TMem → TMem → Prop} {i : Int32} {cv sv : Nat} (hRI : ∀ {μ ν : TMem}, JI μ ν → RI ν) (hGM : GM_tell JI) (C0 : LC p l s m b c L xs D ad bd cI cL cM cB) (hi : 0 ≤ i.toInt) (hiL : i.toInt + 6 ≤ L) (hcv : cv + 2000 ≤ 600128) (hsv : sv + 112000 ≤ 7301098) (hJ3 : LJ p l e s m b below meth c D ad bd cI cM q Z JI i (cv + 2000) (sv + 112000) 1544) : LJ p l e s m b below meth c D ad bd cI cM q Z JI i cv sv 872 := by
  obtain ⟨hx, hb, hml, hown, ht, hg, hI, hJ, hXs, hbl, hst, hL⟩ := C0
  have hN : NW s := hg.2.2.2.2.1
  have hbA : ¬ SA s.heap.size b := Nat.not_le.mpr hbl
  intro μ ν nv sw H locs ls hJI hw hl
  obtain ⟨⟨hi1, hi2, hi3, hi4, hi5⟩, hv0, hv1, hv2, hv3, hv4, hv5⟩ := lx_ix hi hiL hL
  refine lv_aload_n hx hb dL_law_872 rfl (lv_at hl 1 rfl) ?_
  refine lv_aload_n hx hb dL_law_873 rfl (lv_at hl 0 rfl) ?_
  refine lv_iload hx hb dL_law_874 (lv_at hl 4 rfl) ?_
  refine lv_iconst (v := (1 : Int32)) hx hb dL_law_876 (by decide) ?_
  refine lv_iadd hx hb dL_law_877 ?_
  refine va_sld hx hb hXs hbl hbA hw.2.2.1 (i := (i + (1 : Int32))) hv1 dL_law_878 ?_
  refine lv_aload_n hx hb dL_law_879 rfl (lv_at hl 0 rfl) ?_
  refine lv_iload hx hb dL_law_880 (lv_at hl 4 rfl) ?_
  refine lv_iconst (v := (2 : Int32)) hx hb dL_law_882 (by decide) ?_
  refine lv_iadd hx hb dL_law_883 ?_
  refine va_sld hx hb hXs hbl hbA hw.2.2.1 (i := (i + (2 : Int32))) hv2 dL_law_884 ?_
  refine lv_aload_n hx hb dL_law_885 rfl (lv_at hl 3 rfl) ?_
  refine LL_call hw hI (vx_runSX (own := "LeastreaderLaw") (As := [.ref (ad 0), .int (xs (i + (1 : Int32)).toNatClampNeg), .int (xs (i + (2 : Int32)).toNatClampNeg), .ref q]) (rest := []) ⟨hx, hb, hml, hown, ht⟩ (c_L_tell hst q nv sw μ H.size (xs (i + (1 : Int32)).toNatClampNeg) (xs (i + (2 : Int32)).toNatClampNeg) (PW := fun k u => RW_tell JI ν (xs (i + (1 : Int32)).toNatClampNeg) (xs (i + (2 : Int32)).toNatClampNeg) k u.2.1 u.1) (hGM μ ν nv (xs (i + (1 : Int32)).toNatClampNeg) (xs (i + (2 : Int32)).toNatClampNeg) hJI)) (vx_cwSW 4 ht (G_S q_821 q_822 q_45 q_823) rfl rfl rfl vd_53 ⟨Nat.le_of_ble_eq_true rfl, Nat.le_of_ble_eq_true rfl⟩) ⟨LB.blind, hg.lb hI hw⟩ rfl rfl hl.1 rfl (lv_room (Nat.le_of_ble_eq_true rfl)) dL_law_886 ⟨show cv + 2 ≤ 600128 by omega, show sv + 12 ≤ 7301098 by omega⟩) (fun r1 μ1 nv1 sw1 H locs hq1 hw => ?_)
  refine lv_istore (lv' := [(5, .int r1), (0, .ref b), (1, .ref (ad 0)), (2, .ref (bd 0)), (3, .ref q), (4, .int i)]) hx hb dL_law_889 hl (by decide) rfl (fun ls hl => ?_)
  refine lv_aload_n hx hb dL_law_891 rfl (lv_at hl 3 rfl) ?_
  refine lv_aload_n hx hb dL_law_892 rfl (lv_at hl 1 rfl) ?_
  refine lv_iload hx hb dL_law_893 (lv_at hl 5 rfl) ?_
  refine lv_iconst (v := (1 : Int32)) hx hb dL_law_895 (by decide) ?_
  refine lv_iadd hx hb dL_law_896 ?_
  refine va_sld hx hb hXs hbl hbA hw.2.2.1 (i := (i + (1 : Int32))) hv1 dL_law_897 ?_
  refine lv_aload_n hx hb dL_law_898 rfl (lv_at hl 1 rfl) ?_
  refine lv_iload hx hb dL_law_899 (lv_at hl 5 rfl) ?_
  refine lv_iconst (v := (2 : Int32)) hx hb dL_law_901 (by decide) ?_
  refine lv_iadd hx hb dL_law_902 ?_
  refine va_sld hx hb hXs hbl hbA hw.2.2.1 (i := (i + (2 : Int32))) hv2 dL_law_903 ?_
  refine M_calli hw (LZ_MA hw) (va_runV (own := "LeastreaderLaw") (As := [.int (xs (i + (1 : Int32)).toNatClampNeg), .int (xs (i + (2 : Int32)).toNatClampNeg)]) (rest := []) ⟨hx, hb, hml, hown, ht⟩ (c_X11_tell ν H.size (xs (i + (1 : Int32)).toNatClampNeg) (xs (i + (2 : Int32)).toNatClampNeg) hq1) (cwV 2 ht (G_V q_1494 q_1495 q_1496 q_56 q_1497) rfl rfl rfl ⟨rfl, vd_54⟩ ⟨Nat.le_of_ble_eq_true rfl, Nat.le_of_ble_eq_true rfl⟩) ⟨MB.blind, M_recv hg.2.1 hw, MB.pre hg.2.1 hJ hw va_P0 ne0⟩ rfl rfl hl.1 rfl (lv_room (Nat.le_of_ble_eq_true rfl)) dL_law_904 ⟨show cv + 2 + 0 ≤ 600128 by omega, show sv + 12 + 0 ≤ 7301098 by omega⟩) (fun r2 ν2 H locs hf2 hw => ?_)
  refine lv_istore (lv' := [(6, .int r2), (5, .int r1), (0, .ref b), (1, .ref (ad 0)), (2, .ref (bd 0)), (3, .ref q), (4, .int i)]) hx hb dL_law_907 hl (by decide) rfl (fun ls hl => ?_)
  refine lv_goto (tgt := 1544) hx hb dL_law_909 (by decide) ?_
  refine W.widen (show cv + 2 + 0 ≤ cv + 2000 by omega) (show sv + 12 + 0 ≤ sv + 112000 by omega) ?_
  exact hJ3 μ1 ν2 nv1 sw1 H locs ls hf2 hw (lv_sub hl [2, 3, 4, 5, 6] rfl)
set_option maxHeartbeats 4000000 in
set_option maxRecDepth 100000 in
theorem law_14 {p : Program} {l : Launch} {e : Env} {s : State} {m : MethodId} {b : Nat} {below : List Frame} {meth : Method} {c : Code} {L : Nat} {xs : Nat → Int32} {D : va_G} {ad bd : Nat → Nat} {cI cL cM cB : ClassId} {q : Nat} {Z : State → Prop} {JI : TMem → TMem → Prop} {i : Int32} {cv sv : Nat} (hRI : ∀ {μ ν : TMem}, JI μ ν → RI ν) (hGM : GM_arrows JI) (C0 : LC p l s m b c L xs D ad bd cI cL cM cB) (hi : 0 ≤ i.toInt) (hiL : i.toInt + 6 ≤ L) (hcv : cv + 2000 ≤ 600128) (hsv : sv + 112000 ≤ 7301098) (hJ3 : LJ p l e s m b below meth c D ad bd cI cM q Z JI i (cv + 2000) (sv + 112000) 1544) : LJ p l e s m b below meth c D ad bd cI cM q Z JI i cv sv 912 := by
  obtain ⟨hx, hb, hml, hown, ht, hg, hI, hJ, hXs, hbl, hst, hL⟩ := C0
  have hN : NW s := hg.2.2.2.2.1
  have hbA : ¬ SA s.heap.size b := Nat.not_le.mpr hbl
  intro μ ν nv sw H locs ls hJI hw hl
  obtain ⟨⟨hi1, hi2, hi3, hi4, hi5⟩, hv0, hv1, hv2, hv3, hv4, hv5⟩ := lx_ix hi hiL hL
  refine lv_aload_n hx hb dL_law_912 rfl (lv_at hl 1 rfl) ?_
  refine lv_aload_n hx hb dL_law_913 rfl (lv_at hl 0 rfl) ?_
  refine lv_iload hx hb dL_law_914 (lv_at hl 4 rfl) ?_
  refine lv_iconst (v := (1 : Int32)) hx hb dL_law_916 (by decide) ?_
  refine lv_iadd hx hb dL_law_917 ?_
  refine va_sld hx hb hXs hbl hbA hw.2.2.1 (i := (i + (1 : Int32))) hv1 dL_law_918 ?_
  refine lv_aload_n hx hb dL_law_919 rfl (lv_at hl 0 rfl) ?_
  refine lv_iload hx hb dL_law_920 (lv_at hl 4 rfl) ?_
  refine lv_iconst (v := (2 : Int32)) hx hb dL_law_922 (by decide) ?_
  refine lv_iadd hx hb dL_law_923 ?_
  refine va_sld hx hb hXs hbl hbA hw.2.2.1 (i := (i + (2 : Int32))) hv2 dL_law_924 ?_
  refine lv_aload_n hx hb dL_law_925 rfl (lv_at hl 0 rfl) ?_
  refine lv_iload hx hb dL_law_926 (lv_at hl 4 rfl) ?_
  refine lv_iconst (v := (3 : Int32)) hx hb dL_law_928 (by decide) ?_
  refine lv_iadd hx hb dL_law_929 ?_
  refine va_sld hx hb hXs hbl hbA hw.2.2.1 (i := (i + (3 : Int32))) hv3 dL_law_930 ?_
  refine lv_aload_n hx hb dL_law_931 rfl (lv_at hl 3 rfl) ?_
  refine LL_call hw hI (vx_runSX (own := "LeastreaderLaw") (As := [.ref (ad 0), .int (xs (i + (1 : Int32)).toNatClampNeg), .int (xs (i + (2 : Int32)).toNatClampNeg), .int (xs (i + (3 : Int32)).toNatClampNeg), .ref q]) (rest := []) ⟨hx, hb, hml, hown, ht⟩ (c_L_arrows hst q nv sw μ H.size (xs (i + (1 : Int32)).toNatClampNeg) (xs (i + (2 : Int32)).toNatClampNeg) (xs (i + (3 : Int32)).toNatClampNeg) (PW := fun k u => RW_arrows JI ν (xs (i + (1 : Int32)).toNatClampNeg) (xs (i + (2 : Int32)).toNatClampNeg) (xs (i + (3 : Int32)).toNatClampNeg) k u.2.1 u.1) (hGM μ ν nv (xs (i + (1 : Int32)).toNatClampNeg) (xs (i + (2 : Int32)).toNatClampNeg) (xs (i + (3 : Int32)).toNatClampNeg) hJI)) (vx_cwSW 5 ht (G_S q_828 q_829 q_45 q_830) rfl rfl rfl vd_55 ⟨Nat.le_of_ble_eq_true rfl, Nat.le_of_ble_eq_true rfl⟩) ⟨LB.blind, hg.lb hI hw⟩ rfl rfl hl.1 rfl (lv_room (Nat.le_of_ble_eq_true rfl)) dL_law_932 ⟨show cv + 3 ≤ 600128 by omega, show sv + 18 ≤ 7301098 by omega⟩) (fun r1 μ1 nv1 sw1 H locs hq1 hw => ?_)
  refine lv_istore (lv' := [(5, .int r1), (0, .ref b), (1, .ref (ad 0)), (2, .ref (bd 0)), (3, .ref q), (4, .int i)]) hx hb dL_law_935 hl (by decide) rfl (fun ls hl => ?_)
  refine lv_aload_n hx hb dL_law_937 rfl (lv_at hl 3 rfl) ?_
  refine lv_aload_n hx hb dL_law_938 rfl (lv_at hl 1 rfl) ?_
  refine lv_iload hx hb dL_law_939 (lv_at hl 5 rfl) ?_
  refine lv_iconst (v := (1 : Int32)) hx hb dL_law_941 (by decide) ?_
  refine lv_iadd hx hb dL_law_942 ?_
  refine va_sld hx hb hXs hbl hbA hw.2.2.1 (i := (i + (1 : Int32))) hv1 dL_law_943 ?_
  refine lv_aload_n hx hb dL_law_944 rfl (lv_at hl 1 rfl) ?_
  refine lv_iload hx hb dL_law_945 (lv_at hl 5 rfl) ?_
  refine lv_iconst (v := (2 : Int32)) hx hb dL_law_947 (by decide) ?_
  refine lv_iadd hx hb dL_law_948 ?_
  refine va_sld hx hb hXs hbl hbA hw.2.2.1 (i := (i + (2 : Int32))) hv2 dL_law_949 ?_
  refine lv_aload_n hx hb dL_law_950 rfl (lv_at hl 1 rfl) ?_
  refine lv_iload hx hb dL_law_951 (lv_at hl 5 rfl) ?_
  refine lv_iconst (v := (3 : Int32)) hx hb dL_law_953 (by decide) ?_
  refine lv_iadd hx hb dL_law_954 ?_
  refine va_sld hx hb hXs hbl hbA hw.2.2.1 (i := (i + (3 : Int32))) hv3 dL_law_955 ?_
  refine M_calli hw (LZ_MA hw) (va_runV (own := "LeastreaderLaw") (As := [.int (xs (i + (1 : Int32)).toNatClampNeg), .int (xs (i + (2 : Int32)).toNatClampNeg), .int (xs (i + (3 : Int32)).toNatClampNeg)]) (rest := []) ⟨hx, hb, hml, hown, ht⟩ (c_X11_arrows ν H.size (xs (i + (1 : Int32)).toNatClampNeg) (xs (i + (2 : Int32)).toNatClampNeg) (xs (i + (3 : Int32)).toNatClampNeg) hq1) (cwV 3 ht (G_V q_1498 q_1499 q_1500 q_56 q_1501) rfl rfl rfl ⟨rfl, vd_56⟩ ⟨Nat.le_of_ble_eq_true rfl, Nat.le_of_ble_eq_true rfl⟩) ⟨MB.blind, M_recv hg.2.1 hw, MB.pre hg.2.1 hJ hw va_P0 ne0⟩ rfl rfl hl.1 rfl (lv_room (Nat.le_of_ble_eq_true rfl)) dL_law_956 ⟨show cv + 3 + 0 ≤ 600128 by omega, show sv + 18 + 0 ≤ 7301098 by omega⟩) (fun r2 ν2 H locs hf2 hw => ?_)
  refine lv_istore (lv' := [(6, .int r2), (5, .int r1), (0, .ref b), (1, .ref (ad 0)), (2, .ref (bd 0)), (3, .ref q), (4, .int i)]) hx hb dL_law_959 hl (by decide) rfl (fun ls hl => ?_)
  refine lv_goto (tgt := 1544) hx hb dL_law_961 (by decide) ?_
  refine W.widen (show cv + 3 + 0 ≤ cv + 2000 by omega) (show sv + 18 + 0 ≤ sv + 112000 by omega) ?_
  exact hJ3 μ1 ν2 nv1 sw1 H locs ls hf2 hw (lv_sub hl [2, 3, 4, 5, 6] rfl)
set_option maxHeartbeats 4000000 in
set_option maxRecDepth 100000 in
theorem law_15 {p : Program} {l : Launch} {e : Env} {s : State} {m : MethodId} {b : Nat} {below : List Frame} {meth : Method} {c : Code} {L : Nat} {xs : Nat → Int32} {D : va_G} {ad bd : Nat → Nat} {cI cL cM cB : ClassId} {q : Nat} {Z : State → Prop} {JI : TMem → TMem → Prop} {i : Int32} {cv sv : Nat} (hRI : ∀ {μ ν : TMem}, JI μ ν → RI ν) (hGM : GM_takes JI) (C0 : LC p l s m b c L xs D ad bd cI cL cM cB) (hi : 0 ≤ i.toInt) (hiL : i.toInt + 6 ≤ L) (hcv : cv + 2000 ≤ 600128) (hsv : sv + 112000 ≤ 7301098) (hJ3 : LJ p l e s m b below meth c D ad bd cI cM q Z JI i (cv + 2000) (sv + 112000) 1544) : LJ p l e s m b below meth c D ad bd cI cM q Z JI i cv sv 964 := by
  obtain ⟨hx, hb, hml, hown, ht, hg, hI, hJ, hXs, hbl, hst, hL⟩ := C0
  have hN : NW s := hg.2.2.2.2.1
  have hbA : ¬ SA s.heap.size b := Nat.not_le.mpr hbl
  intro μ ν nv sw H locs ls hJI hw hl
  obtain ⟨⟨hi1, hi2, hi3, hi4, hi5⟩, hv0, hv1, hv2, hv3, hv4, hv5⟩ := lx_ix hi hiL hL
  refine lv_aload_n hx hb dL_law_964 rfl (lv_at hl 1 rfl) ?_
  refine lv_aload_n hx hb dL_law_965 rfl (lv_at hl 0 rfl) ?_
  refine lv_iload hx hb dL_law_966 (lv_at hl 4 rfl) ?_
  refine lv_iconst (v := (1 : Int32)) hx hb dL_law_968 (by decide) ?_
  refine lv_iadd hx hb dL_law_969 ?_
  refine va_sld hx hb hXs hbl hbA hw.2.2.1 (i := (i + (1 : Int32))) hv1 dL_law_970 ?_
  refine lv_aload_n hx hb dL_law_971 rfl (lv_at hl 0 rfl) ?_
  refine lv_iload hx hb dL_law_972 (lv_at hl 4 rfl) ?_
  refine lv_iconst (v := (2 : Int32)) hx hb dL_law_974 (by decide) ?_
  refine lv_iadd hx hb dL_law_975 ?_
  refine va_sld hx hb hXs hbl hbA hw.2.2.1 (i := (i + (2 : Int32))) hv2 dL_law_976 ?_
  refine lv_aload_n hx hb dL_law_977 rfl (lv_at hl 0 rfl) ?_
  refine lv_iload hx hb dL_law_978 (lv_at hl 4 rfl) ?_
  refine lv_iconst (v := (3 : Int32)) hx hb dL_law_980 (by decide) ?_
  refine lv_iadd hx hb dL_law_981 ?_
  refine va_sld hx hb hXs hbl hbA hw.2.2.1 (i := (i + (3 : Int32))) hv3 dL_law_982 ?_
  refine lv_aload_n hx hb dL_law_983 rfl (lv_at hl 3 rfl) ?_
  refine LL_call hw hI (vx_runSX (own := "LeastreaderLaw") (As := [.ref (ad 0), .int (xs (i + (1 : Int32)).toNatClampNeg), .int (xs (i + (2 : Int32)).toNatClampNeg), .int (xs (i + (3 : Int32)).toNatClampNeg), .ref q]) (rest := []) ⟨hx, hb, hml, hown, ht⟩ (c_L_takes hst q nv sw μ H.size (xs (i + (1 : Int32)).toNatClampNeg) (xs (i + (2 : Int32)).toNatClampNeg) (xs (i + (3 : Int32)).toNatClampNeg) (PW := fun k u => RW_takes JI ν (xs (i + (1 : Int32)).toNatClampNeg) (xs (i + (2 : Int32)).toNatClampNeg) (xs (i + (3 : Int32)).toNatClampNeg) k u.2.1 u.1) (hGM μ ν nv (xs (i + (1 : Int32)).toNatClampNeg) (xs (i + (2 : Int32)).toNatClampNeg) (xs (i + (3 : Int32)).toNatClampNeg) hJI)) (vx_cwSW 5 ht (G_S q_835 q_836 q_45 q_837) rfl rfl rfl vd_57 ⟨Nat.le_of_ble_eq_true rfl, Nat.le_of_ble_eq_true rfl⟩) ⟨LB.blind, hg.lb hI hw⟩ rfl rfl hl.1 rfl (lv_room (Nat.le_of_ble_eq_true rfl)) dL_law_984 ⟨show cv + 3 ≤ 600128 by omega, show sv + 18 ≤ 7301098 by omega⟩) (fun r1 μ1 nv1 sw1 H locs hq1 hw => ?_)
  refine lv_istore (lv' := [(5, .int r1), (0, .ref b), (1, .ref (ad 0)), (2, .ref (bd 0)), (3, .ref q), (4, .int i)]) hx hb dL_law_987 hl (by decide) rfl (fun ls hl => ?_)
  refine lv_aload_n hx hb dL_law_989 rfl (lv_at hl 3 rfl) ?_
  refine lv_aload_n hx hb dL_law_990 rfl (lv_at hl 1 rfl) ?_
  refine lv_iload hx hb dL_law_991 (lv_at hl 5 rfl) ?_
  refine lv_iconst (v := (1 : Int32)) hx hb dL_law_993 (by decide) ?_
  refine lv_iadd hx hb dL_law_994 ?_
  refine va_sld hx hb hXs hbl hbA hw.2.2.1 (i := (i + (1 : Int32))) hv1 dL_law_995 ?_
  refine lv_aload_n hx hb dL_law_996 rfl (lv_at hl 1 rfl) ?_
  refine lv_iload hx hb dL_law_997 (lv_at hl 5 rfl) ?_
  refine lv_iconst (v := (2 : Int32)) hx hb dL_law_999 (by decide) ?_
  refine lv_iadd hx hb dL_law_1000 ?_
  refine va_sld hx hb hXs hbl hbA hw.2.2.1 (i := (i + (2 : Int32))) hv2 dL_law_1001 ?_
  refine lv_aload_n hx hb dL_law_1002 rfl (lv_at hl 1 rfl) ?_
  refine lv_iload hx hb dL_law_1003 (lv_at hl 5 rfl) ?_
  refine lv_iconst (v := (3 : Int32)) hx hb dL_law_1005 (by decide) ?_
  refine lv_iadd hx hb dL_law_1006 ?_
  refine va_sld hx hb hXs hbl hbA hw.2.2.1 (i := (i + (3 : Int32))) hv3 dL_law_1007 ?_
  refine M_calli hw (LZ_MA hw) (va_runV (own := "LeastreaderLaw") (As := [.int (xs (i + (1 : Int32)).toNatClampNeg), .int (xs (i + (2 : Int32)).toNatClampNeg), .int (xs (i + (3 : Int32)).toNatClampNeg)]) (rest := []) ⟨hx, hb, hml, hown, ht⟩ (c_X11_takes ν H.size (xs (i + (1 : Int32)).toNatClampNeg) (xs (i + (2 : Int32)).toNatClampNeg) (xs (i + (3 : Int32)).toNatClampNeg) hq1) (cwV 3 ht (G_V q_1502 q_1503 q_1504 q_56 q_1505) rfl rfl rfl ⟨rfl, vd_58⟩ ⟨Nat.le_of_ble_eq_true rfl, Nat.le_of_ble_eq_true rfl⟩) ⟨MB.blind, M_recv hg.2.1 hw, MB.pre hg.2.1 hJ hw va_P0 ne0⟩ rfl rfl hl.1 rfl (lv_room (Nat.le_of_ble_eq_true rfl)) dL_law_1008 ⟨show cv + 3 + 0 ≤ 600128 by omega, show sv + 18 + 0 ≤ 7301098 by omega⟩) (fun r2 ν2 H locs hf2 hw => ?_)
  refine lv_istore (lv' := [(6, .int r2), (5, .int r1), (0, .ref b), (1, .ref (ad 0)), (2, .ref (bd 0)), (3, .ref q), (4, .int i)]) hx hb dL_law_1011 hl (by decide) rfl (fun ls hl => ?_)
  refine lv_goto (tgt := 1544) hx hb dL_law_1013 (by decide) ?_
  refine W.widen (show cv + 3 + 0 ≤ cv + 2000 by omega) (show sv + 18 + 0 ≤ sv + 112000 by omega) ?_
  exact hJ3 μ1 ν2 nv1 sw1 H locs ls hf2 hw (lv_sub hl [2, 3, 4, 5, 6] rfl)
set_option maxHeartbeats 4000000 in
set_option maxRecDepth 100000 in
theorem law_16 {p : Program} {l : Launch} {e : Env} {s : State} {m : MethodId} {b : Nat} {below : List Frame} {meth : Method} {c : Code} {L : Nat} {xs : Nat → Int32} {D : va_G} {ad bd : Nat → Nat} {cI cL cM cB : ClassId} {q : Nat} {Z : State → Prop} {JI : TMem → TMem → Prop} {i : Int32} {cv sv : Nat} (hRI : ∀ {μ ν : TMem}, JI μ ν → RI ν) (hGM : GM_after JI) (C0 : LC p l s m b c L xs D ad bd cI cL cM cB) (hi : 0 ≤ i.toInt) (hiL : i.toInt + 6 ≤ L) (hcv : cv + 2000 ≤ 600128) (hsv : sv + 112000 ≤ 7301098) (hJ3 : LJ p l e s m b below meth c D ad bd cI cM q Z JI i (cv + 2000) (sv + 112000) 1544) : LJ p l e s m b below meth c D ad bd cI cM q Z JI i cv sv 1016 := by
  obtain ⟨hx, hb, hml, hown, ht, hg, hI, hJ, hXs, hbl, hst, hL⟩ := C0
  have hN : NW s := hg.2.2.2.2.1
  have hbA : ¬ SA s.heap.size b := Nat.not_le.mpr hbl
  intro μ ν nv sw H locs ls hJI hw hl
  obtain ⟨⟨hi1, hi2, hi3, hi4, hi5⟩, hv0, hv1, hv2, hv3, hv4, hv5⟩ := lx_ix hi hiL hL
  refine lv_aload_n hx hb dL_law_1016 rfl (lv_at hl 1 rfl) ?_
  refine lv_aload_n hx hb dL_law_1017 rfl (lv_at hl 0 rfl) ?_
  refine lv_iload hx hb dL_law_1018 (lv_at hl 4 rfl) ?_
  refine lv_iconst (v := (1 : Int32)) hx hb dL_law_1020 (by decide) ?_
  refine lv_iadd hx hb dL_law_1021 ?_
  refine va_sld hx hb hXs hbl hbA hw.2.2.1 (i := (i + (1 : Int32))) hv1 dL_law_1022 ?_
  refine lv_aload_n hx hb dL_law_1023 rfl (lv_at hl 0 rfl) ?_
  refine lv_iload hx hb dL_law_1024 (lv_at hl 4 rfl) ?_
  refine lv_iconst (v := (2 : Int32)) hx hb dL_law_1026 (by decide) ?_
  refine lv_iadd hx hb dL_law_1027 ?_
  refine va_sld hx hb hXs hbl hbA hw.2.2.1 (i := (i + (2 : Int32))) hv2 dL_law_1028 ?_
  refine lv_aload_n hx hb dL_law_1029 rfl (lv_at hl 0 rfl) ?_
  refine lv_iload hx hb dL_law_1030 (lv_at hl 4 rfl) ?_
  refine lv_iconst (v := (3 : Int32)) hx hb dL_law_1032 (by decide) ?_
  refine lv_iadd hx hb dL_law_1033 ?_
  refine va_sld hx hb hXs hbl hbA hw.2.2.1 (i := (i + (3 : Int32))) hv3 dL_law_1034 ?_
  refine lv_aload_n hx hb dL_law_1035 rfl (lv_at hl 0 rfl) ?_
  refine lv_iload hx hb dL_law_1036 (lv_at hl 4 rfl) ?_
  refine lv_iconst (v := (4 : Int32)) hx hb dL_law_1038 (by decide) ?_
  refine lv_iadd hx hb dL_law_1039 ?_
  refine va_sld hx hb hXs hbl hbA hw.2.2.1 (i := (i + (4 : Int32))) hv4 dL_law_1040 ?_
  refine lv_aload_n hx hb dL_law_1041 rfl (lv_at hl 3 rfl) ?_
  refine LL_call hw hI (vx_runSX (own := "LeastreaderLaw") (As := [.ref (ad 0), .int (xs (i + (1 : Int32)).toNatClampNeg), .int (xs (i + (2 : Int32)).toNatClampNeg), .int (xs (i + (3 : Int32)).toNatClampNeg), .int (xs (i + (4 : Int32)).toNatClampNeg), .ref q]) (rest := []) ⟨hx, hb, hml, hown, ht⟩ (c_L_after hst q nv sw μ H.size (xs (i + (1 : Int32)).toNatClampNeg) (xs (i + (2 : Int32)).toNatClampNeg) (xs (i + (3 : Int32)).toNatClampNeg) (xs (i + (4 : Int32)).toNatClampNeg) (PW := fun k u => RW_after JI ν (xs (i + (1 : Int32)).toNatClampNeg) (xs (i + (2 : Int32)).toNatClampNeg) (xs (i + (3 : Int32)).toNatClampNeg) (xs (i + (4 : Int32)).toNatClampNeg) k u.2.1 u.1) (hGM μ ν nv (xs (i + (1 : Int32)).toNatClampNeg) (xs (i + (2 : Int32)).toNatClampNeg) (xs (i + (3 : Int32)).toNatClampNeg) (xs (i + (4 : Int32)).toNatClampNeg) hJI)) (vx_cwSW 6 ht (G_S q_845 q_846 q_45 q_847) rfl rfl rfl vd_59 ⟨Nat.le_of_ble_eq_true rfl, Nat.le_of_ble_eq_true rfl⟩) ⟨LB.blind, hg.lb hI hw⟩ rfl rfl hl.1 rfl (lv_room (Nat.le_of_ble_eq_true rfl)) dL_law_1042 ⟨show cv + 5 ≤ 600128 by omega, show sv + 30 ≤ 7301098 by omega⟩) (fun r1 μ1 nv1 sw1 H locs hq1 hw => ?_)
  refine lv_istore (lv' := [(5, .int r1), (0, .ref b), (1, .ref (ad 0)), (2, .ref (bd 0)), (3, .ref q), (4, .int i)]) hx hb dL_law_1045 hl (by decide) rfl (fun ls hl => ?_)
  refine lv_aload_n hx hb dL_law_1047 rfl (lv_at hl 3 rfl) ?_
  refine lv_aload_n hx hb dL_law_1048 rfl (lv_at hl 1 rfl) ?_
  refine lv_iload hx hb dL_law_1049 (lv_at hl 5 rfl) ?_
  refine lv_iconst (v := (1 : Int32)) hx hb dL_law_1051 (by decide) ?_
  refine lv_iadd hx hb dL_law_1052 ?_
  refine va_sld hx hb hXs hbl hbA hw.2.2.1 (i := (i + (1 : Int32))) hv1 dL_law_1053 ?_
  refine lv_aload_n hx hb dL_law_1054 rfl (lv_at hl 1 rfl) ?_
  refine lv_iload hx hb dL_law_1055 (lv_at hl 5 rfl) ?_
  refine lv_iconst (v := (2 : Int32)) hx hb dL_law_1057 (by decide) ?_
  refine lv_iadd hx hb dL_law_1058 ?_
  refine va_sld hx hb hXs hbl hbA hw.2.2.1 (i := (i + (2 : Int32))) hv2 dL_law_1059 ?_
  refine lv_aload_n hx hb dL_law_1060 rfl (lv_at hl 1 rfl) ?_
  refine lv_iload hx hb dL_law_1061 (lv_at hl 5 rfl) ?_
  refine lv_iconst (v := (3 : Int32)) hx hb dL_law_1063 (by decide) ?_
  refine lv_iadd hx hb dL_law_1064 ?_
  refine va_sld hx hb hXs hbl hbA hw.2.2.1 (i := (i + (3 : Int32))) hv3 dL_law_1065 ?_
  refine lv_aload_n hx hb dL_law_1066 rfl (lv_at hl 1 rfl) ?_
  refine lv_iload hx hb dL_law_1067 (lv_at hl 5 rfl) ?_
  refine lv_iconst (v := (4 : Int32)) hx hb dL_law_1069 (by decide) ?_
  refine lv_iadd hx hb dL_law_1070 ?_
  refine va_sld hx hb hXs hbl hbA hw.2.2.1 (i := (i + (4 : Int32))) hv4 dL_law_1071 ?_
  refine M_calli hw (LZ_MA hw) (va_runV (own := "LeastreaderLaw") (As := [.int (xs (i + (1 : Int32)).toNatClampNeg), .int (xs (i + (2 : Int32)).toNatClampNeg), .int (xs (i + (3 : Int32)).toNatClampNeg), .int (xs (i + (4 : Int32)).toNatClampNeg)]) (rest := []) ⟨hx, hb, hml, hown, ht⟩ (c_X11_after ν H.size (xs (i + (1 : Int32)).toNatClampNeg) (xs (i + (2 : Int32)).toNatClampNeg) (xs (i + (3 : Int32)).toNatClampNeg) (xs (i + (4 : Int32)).toNatClampNeg) hq1) (cwV 4 ht (G_V q_1516 q_1517 q_1518 q_56 q_1519) rfl rfl rfl ⟨rfl, vd_60⟩ ⟨Nat.le_of_ble_eq_true rfl, Nat.le_of_ble_eq_true rfl⟩) ⟨MB.blind, M_recv hg.2.1 hw, MB.pre hg.2.1 hJ hw va_P0 ne0⟩ rfl rfl hl.1 rfl (lv_room (Nat.le_of_ble_eq_true rfl)) dL_law_1072 ⟨show cv + 5 + 41 ≤ 600128 by omega, show sv + 30 + 1685 ≤ 7301098 by omega⟩) (fun r2 ν2 H locs hf2 hw => ?_)
  refine lv_istore (lv' := [(6, .int r2), (5, .int r1), (0, .ref b), (1, .ref (ad 0)), (2, .ref (bd 0)), (3, .ref q), (4, .int i)]) hx hb dL_law_1075 hl (by decide) rfl (fun ls hl => ?_)
  refine lv_goto (tgt := 1544) hx hb dL_law_1077 (by decide) ?_
  refine W.widen (show cv + 5 + 41 ≤ cv + 2000 by omega) (show sv + 30 + 1685 ≤ sv + 112000 by omega) ?_
  exact hJ3 μ1 ν2 nv1 sw1 H locs ls hf2 hw (lv_sub hl [2, 3, 4, 5, 6] rfl)
set_option maxHeartbeats 4000000 in
set_option maxRecDepth 100000 in
theorem law_17 {p : Program} {l : Launch} {e : Env} {s : State} {m : MethodId} {b : Nat} {below : List Frame} {meth : Method} {c : Code} {L : Nat} {xs : Nat → Int32} {D : va_G} {ad bd : Nat → Nat} {cI cL cM cB : ClassId} {q : Nat} {Z : State → Prop} {JI : TMem → TMem → Prop} {i : Int32} {cv sv : Nat} (hRI : ∀ {μ ν : TMem}, JI μ ν → RI ν) (hGM : GM_size JI) (C0 : LC p l s m b c L xs D ad bd cI cL cM cB) (hi : 0 ≤ i.toInt) (hiL : i.toInt + 6 ≤ L) (hcv : cv + 2000 ≤ 600128) (hsv : sv + 112000 ≤ 7301098) (hJ3 : LJ p l e s m b below meth c D ad bd cI cM q Z JI i (cv + 2000) (sv + 112000) 1544) : LJ p l e s m b below meth c D ad bd cI cM q Z JI i cv sv 1080 := by
  obtain ⟨hx, hb, hml, hown, ht, hg, hI, hJ, hXs, hbl, hst, hL⟩ := C0
  have hN : NW s := hg.2.2.2.2.1
  have hbA : ¬ SA s.heap.size b := Nat.not_le.mpr hbl
  intro μ ν nv sw H locs ls hJI hw hl
  obtain ⟨⟨hi1, hi2, hi3, hi4, hi5⟩, hv0, hv1, hv2, hv3, hv4, hv5⟩ := lx_ix hi hiL hL
  refine lv_aload_n hx hb dL_law_1080 rfl (lv_at hl 1 rfl) ?_
  refine lv_aload_n hx hb dL_law_1081 rfl (lv_at hl 0 rfl) ?_
  refine lv_iload hx hb dL_law_1082 (lv_at hl 4 rfl) ?_
  refine lv_iconst (v := (1 : Int32)) hx hb dL_law_1084 (by decide) ?_
  refine lv_iadd hx hb dL_law_1085 ?_
  refine va_sld hx hb hXs hbl hbA hw.2.2.1 (i := (i + (1 : Int32))) hv1 dL_law_1086 ?_
  refine lv_aload_n hx hb dL_law_1087 rfl (lv_at hl 0 rfl) ?_
  refine lv_iload hx hb dL_law_1088 (lv_at hl 4 rfl) ?_
  refine lv_iconst (v := (2 : Int32)) hx hb dL_law_1090 (by decide) ?_
  refine lv_iadd hx hb dL_law_1091 ?_
  refine va_sld hx hb hXs hbl hbA hw.2.2.1 (i := (i + (2 : Int32))) hv2 dL_law_1092 ?_
  refine lv_aload_n hx hb dL_law_1093 rfl (lv_at hl 3 rfl) ?_
  refine LL_call hw hI (vx_runSX (own := "LeastreaderLaw") (As := [.ref (ad 0), .int (xs (i + (1 : Int32)).toNatClampNeg), .int (xs (i + (2 : Int32)).toNatClampNeg), .ref q]) (rest := []) ⟨hx, hb, hml, hown, ht⟩ (c_L_size hst q nv sw μ H.size (xs (i + (1 : Int32)).toNatClampNeg) (xs (i + (2 : Int32)).toNatClampNeg) (PW := fun k u => RW_size JI ν (xs (i + (1 : Int32)).toNatClampNeg) (xs (i + (2 : Int32)).toNatClampNeg) k u.2.1 u.1) (hGM μ ν nv (xs (i + (1 : Int32)).toNatClampNeg) (xs (i + (2 : Int32)).toNatClampNeg) hJI)) (vx_cwSW 4 ht (G_S q_874 q_875 q_45 q_876) rfl rfl rfl vd_61 ⟨Nat.le_of_ble_eq_true rfl, Nat.le_of_ble_eq_true rfl⟩) ⟨LB.blind, hg.lb hI hw⟩ rfl rfl hl.1 rfl (lv_room (Nat.le_of_ble_eq_true rfl)) dL_law_1094 ⟨show cv + 3 ≤ 600128 by omega, show sv + 18 ≤ 7301098 by omega⟩) (fun r1 μ1 nv1 sw1 H locs hq1 hw => ?_)
  refine lv_istore (lv' := [(5, .int r1), (0, .ref b), (1, .ref (ad 0)), (2, .ref (bd 0)), (3, .ref q), (4, .int i)]) hx hb dL_law_1097 hl (by decide) rfl (fun ls hl => ?_)
  refine lv_aload_n hx hb dL_law_1099 rfl (lv_at hl 3 rfl) ?_
  refine lv_aload_n hx hb dL_law_1100 rfl (lv_at hl 1 rfl) ?_
  refine lv_iload hx hb dL_law_1101 (lv_at hl 5 rfl) ?_
  refine lv_iconst (v := (1 : Int32)) hx hb dL_law_1103 (by decide) ?_
  refine lv_iadd hx hb dL_law_1104 ?_
  refine va_sld hx hb hXs hbl hbA hw.2.2.1 (i := (i + (1 : Int32))) hv1 dL_law_1105 ?_
  refine lv_aload_n hx hb dL_law_1106 rfl (lv_at hl 1 rfl) ?_
  refine lv_iload hx hb dL_law_1107 (lv_at hl 5 rfl) ?_
  refine lv_iconst (v := (2 : Int32)) hx hb dL_law_1109 (by decide) ?_
  refine lv_iadd hx hb dL_law_1110 ?_
  refine va_sld hx hb hXs hbl hbA hw.2.2.1 (i := (i + (2 : Int32))) hv2 dL_law_1111 ?_
  refine M_calli hw (LZ_MA hw) (va_runV (own := "LeastreaderLaw") (As := [.int (xs (i + (1 : Int32)).toNatClampNeg), .int (xs (i + (2 : Int32)).toNatClampNeg)]) (rest := []) ⟨hx, hb, hml, hown, ht⟩ (c_X11_size ν H.size (xs (i + (1 : Int32)).toNatClampNeg) (xs (i + (2 : Int32)).toNatClampNeg) hq1) (cwV 2 ht (G_V q_1524 q_1525 q_1526 q_56 q_1527) rfl rfl rfl ⟨rfl, vd_62⟩ ⟨Nat.le_of_ble_eq_true rfl, Nat.le_of_ble_eq_true rfl⟩) ⟨MB.blind, M_recv hg.2.1 hw, MB.pre hg.2.1 hJ hw va_P0 ne0⟩ rfl rfl hl.1 rfl (lv_room (Nat.le_of_ble_eq_true rfl)) dL_law_1112 ⟨show cv + 3 + 41 ≤ 600128 by omega, show sv + 18 + 1685 ≤ 7301098 by omega⟩) (fun r2 ν2 H locs hf2 hw => ?_)
  refine lv_istore (lv' := [(6, .int r2), (5, .int r1), (0, .ref b), (1, .ref (ad 0)), (2, .ref (bd 0)), (3, .ref q), (4, .int i)]) hx hb dL_law_1115 hl (by decide) rfl (fun ls hl => ?_)
  refine lv_goto (tgt := 1544) hx hb dL_law_1117 (by decide) ?_
  refine W.widen (show cv + 3 + 41 ≤ cv + 2000 by omega) (show sv + 18 + 1685 ≤ sv + 112000 by omega) ?_
  exact hJ3 μ1 ν2 nv1 sw1 H locs ls hf2 hw (lv_sub hl [2, 3, 4, 5, 6] rfl)
set_option maxHeartbeats 4000000 in
set_option maxRecDepth 100000 in
theorem law_18 {p : Program} {l : Launch} {e : Env} {s : State} {m : MethodId} {b : Nat} {below : List Frame} {meth : Method} {c : Code} {L : Nat} {xs : Nat → Int32} {D : va_G} {ad bd : Nat → Nat} {cI cL cM cB : ClassId} {q : Nat} {Z : State → Prop} {JI : TMem → TMem → Prop} {i : Int32} {cv sv : Nat} (hRI : ∀ {μ ν : TMem}, JI μ ν → RI ν) (hGM : GM_text JI) (C0 : LC p l s m b c L xs D ad bd cI cL cM cB) (hi : 0 ≤ i.toInt) (hiL : i.toInt + 6 ≤ L) (hcv : cv + 2000 ≤ 600128) (hsv : sv + 112000 ≤ 7301098) (hJ3 : LJ p l e s m b below meth c D ad bd cI cM q Z JI i (cv + 2000) (sv + 112000) 1544) : LJ p l e s m b below meth c D ad bd cI cM q Z JI i cv sv 1120 := by
  obtain ⟨hx, hb, hml, hown, ht, hg, hI, hJ, hXs, hbl, hst, hL⟩ := C0
  have hN : NW s := hg.2.2.2.2.1
  have hbA : ¬ SA s.heap.size b := Nat.not_le.mpr hbl
  intro μ ν nv sw H locs ls hJI hw hl
  obtain ⟨⟨hi1, hi2, hi3, hi4, hi5⟩, hv0, hv1, hv2, hv3, hv4, hv5⟩ := lx_ix hi hiL hL
  refine lv_aload_n hx hb dL_law_1120 rfl (lv_at hl 1 rfl) ?_
  refine lv_aload_n hx hb dL_law_1121 rfl (lv_at hl 0 rfl) ?_
  refine lv_iload hx hb dL_law_1122 (lv_at hl 4 rfl) ?_
  refine lv_iconst (v := (1 : Int32)) hx hb dL_law_1124 (by decide) ?_
  refine lv_iadd hx hb dL_law_1125 ?_
  refine va_sld hx hb hXs hbl hbA hw.2.2.1 (i := (i + (1 : Int32))) hv1 dL_law_1126 ?_
  refine lv_aload_n hx hb dL_law_1127 rfl (lv_at hl 0 rfl) ?_
  refine lv_iload hx hb dL_law_1128 (lv_at hl 4 rfl) ?_
  refine lv_iconst (v := (2 : Int32)) hx hb dL_law_1130 (by decide) ?_
  refine lv_iadd hx hb dL_law_1131 ?_
  refine va_sld hx hb hXs hbl hbA hw.2.2.1 (i := (i + (2 : Int32))) hv2 dL_law_1132 ?_
  refine lv_aload_n hx hb dL_law_1133 rfl (lv_at hl 3 rfl) ?_
  refine LL_call hw hI (vx_runSX (own := "LeastreaderLaw") (As := [.ref (ad 0), .int (xs (i + (1 : Int32)).toNatClampNeg), .int (xs (i + (2 : Int32)).toNatClampNeg), .ref q]) (rest := []) ⟨hx, hb, hml, hown, ht⟩ (c_L_text hst q nv sw μ H.size (xs (i + (1 : Int32)).toNatClampNeg) (xs (i + (2 : Int32)).toNatClampNeg) (PW := fun _ u => RW_text JI ν u.1) (hGM μ ν (xs (i + (1 : Int32)).toNatClampNeg) (xs (i + (2 : Int32)).toNatClampNeg) hJI)) (vx_cwSW 4 ht (G_S q_881 q_882 q_45 q_883) rfl rfl rfl vd_63 ⟨Nat.le_of_ble_eq_true rfl, Nat.le_of_ble_eq_true rfl⟩) ⟨LB.blind, hg.lb hI hw⟩ rfl rfl hl.1 rfl (lv_room (Nat.le_of_ble_eq_true rfl)) dL_law_1134 ⟨show cv + 503 ≤ 600128 by omega, show sv + 20018 ≤ 7301098 by omega⟩) (fun r1 μ1 nv1 sw1 H locs hq1 hw => ?_)
  refine lv_istore (lv' := [(5, .int r1), (0, .ref b), (1, .ref (ad 0)), (2, .ref (bd 0)), (3, .ref q), (4, .int i)]) hx hb dL_law_1137 hl (by decide) rfl (fun ls hl => ?_)
  refine lv_aload_n hx hb dL_law_1139 rfl (lv_at hl 3 rfl) ?_
  refine lv_aload_n hx hb dL_law_1140 rfl (lv_at hl 1 rfl) ?_
  refine lv_iload hx hb dL_law_1141 (lv_at hl 5 rfl) ?_
  refine lv_iconst (v := (1 : Int32)) hx hb dL_law_1143 (by decide) ?_
  refine lv_iadd hx hb dL_law_1144 ?_
  refine va_sld hx hb hXs hbl hbA hw.2.2.1 (i := (i + (1 : Int32))) hv1 dL_law_1145 ?_
  refine lv_aload_n hx hb dL_law_1146 rfl (lv_at hl 1 rfl) ?_
  refine lv_iload hx hb dL_law_1147 (lv_at hl 5 rfl) ?_
  refine lv_iconst (v := (2 : Int32)) hx hb dL_law_1149 (by decide) ?_
  refine lv_iadd hx hb dL_law_1150 ?_
  refine va_sld hx hb hXs hbl hbA hw.2.2.1 (i := (i + (2 : Int32))) hv2 dL_law_1151 ?_
  refine MS_callr hw (va_runV (own := "LeastreaderLaw") (As := [.int (xs (i + (1 : Int32)).toNatClampNeg), .int (xs (i + (2 : Int32)).toNatClampNeg)]) (rest := []) ⟨hx, hb, hml, hown, ht⟩ (c_X11_text ν H.size (xs (i + (1 : Int32)).toNatClampNeg) (xs (i + (2 : Int32)).toNatClampNeg) (hRI hJI)) (cwV 2 ht (G_V q_1528 q_1529 q_1530 q_56 q_1531) rfl rfl rfl ⟨rfl, vd_64⟩ ⟨Nat.le_of_ble_eq_true rfl, Nat.le_of_ble_eq_true rfl⟩) ⟨MBS.blind, M_recv hg.2.1 hw, hg.pS hJ hw⟩ rfl rfl hl.1 rfl (lv_room (Nat.le_of_ble_eq_true rfl)) dL_law_1152 ⟨show cv + 503 + 500 ≤ 600128 by omega, show sv + 20018 + 20000 ≤ 7301098 by omega⟩) (fun r2 ν2 H locs hf2 hw => ?_)
  refine lv_astore (lv' := [(6, .ref r2), (5, .int r1), (0, .ref b), (1, .ref (ad 0)), (2, .ref (bd 0)), (3, .ref q), (4, .int i)]) hx hb dL_law_1155 hl (by decide) rfl (fun ls hl => ?_)
  refine lv_goto (tgt := 1544) hx hb dL_law_1157 (by decide) ?_
  refine W.widen (show cv + 503 + 500 ≤ cv + 2000 by omega) (show sv + 20018 + 20000 ≤ sv + 112000 by omega) ?_
  exact hJ3 μ1 ν2 nv1 sw1 H locs ls (hq1 _ hf2) hw (lv_sub hl [2, 3, 4, 5, 6] rfl)
set_option maxHeartbeats 4000000 in
set_option maxRecDepth 100000 in
theorem law_19 {p : Program} {l : Launch} {e : Env} {s : State} {m : MethodId} {b : Nat} {below : List Frame} {meth : Method} {c : Code} {L : Nat} {xs : Nat → Int32} {D : va_G} {ad bd : Nat → Nat} {cI cL cM cB : ClassId} {q : Nat} {Z : State → Prop} {JI : TMem → TMem → Prop} {i : Int32} {cv sv : Nat} (hRI : ∀ {μ ν : TMem}, JI μ ν → RI ν) (hGM : GM_kind JI) (C0 : LC p l s m b c L xs D ad bd cI cL cM cB) (hi : 0 ≤ i.toInt) (hiL : i.toInt + 6 ≤ L) (hcv : cv + 2000 ≤ 600128) (hsv : sv + 112000 ≤ 7301098) (hJ3 : LJ p l e s m b below meth c D ad bd cI cM q Z JI i (cv + 2000) (sv + 112000) 1544) : LJ p l e s m b below meth c D ad bd cI cM q Z JI i cv sv 1160 := by
  obtain ⟨hx, hb, hml, hown, ht, hg, hI, hJ, hXs, hbl, hst, hL⟩ := C0
  have hN : NW s := hg.2.2.2.2.1
  have hbA : ¬ SA s.heap.size b := Nat.not_le.mpr hbl
  intro μ ν nv sw H locs ls hJI hw hl
  obtain ⟨⟨hi1, hi2, hi3, hi4, hi5⟩, hv0, hv1, hv2, hv3, hv4, hv5⟩ := lx_ix hi hiL hL
  refine lv_aload_n hx hb dL_law_1160 rfl (lv_at hl 1 rfl) ?_
  refine lv_aload_n hx hb dL_law_1161 rfl (lv_at hl 0 rfl) ?_
  refine lv_iload hx hb dL_law_1162 (lv_at hl 4 rfl) ?_
  refine lv_iconst (v := (1 : Int32)) hx hb dL_law_1164 (by decide) ?_
  refine lv_iadd hx hb dL_law_1165 ?_
  refine va_sld hx hb hXs hbl hbA hw.2.2.1 (i := (i + (1 : Int32))) hv1 dL_law_1166 ?_
  refine lv_aload_n hx hb dL_law_1167 rfl (lv_at hl 3 rfl) ?_
  refine LL_call hw hI (vx_runSX (own := "LeastreaderLaw") (As := [.ref (ad 0), .int (xs (i + (1 : Int32)).toNatClampNeg), .ref q]) (rest := []) ⟨hx, hb, hml, hown, ht⟩ (c_L_kind hst q nv sw μ H.size (xs (i + (1 : Int32)).toNatClampNeg) (PW := fun k u => RW_kind JI ν (xs (i + (1 : Int32)).toNatClampNeg) k u.2.1 u.1) (hGM μ ν nv (xs (i + (1 : Int32)).toNatClampNeg) hJI)) (vx_cwSW 3 ht (G_S q_1158 q_1159 q_45 q_1160) rfl rfl rfl vd_65 ⟨Nat.le_of_ble_eq_true rfl, Nat.le_of_ble_eq_true rfl⟩) ⟨LB.blind, hg.lb hI hw⟩ rfl rfl hl.1 rfl (lv_room (Nat.le_of_ble_eq_true rfl)) dL_law_1168 ⟨show cv + 2 ≤ 600128 by omega, show sv + 12 ≤ 7301098 by omega⟩) (fun r1 μ1 nv1 sw1 H locs hq1 hw => ?_)
  refine lv_istore (lv' := [(5, .int r1), (0, .ref b), (1, .ref (ad 0)), (2, .ref (bd 0)), (3, .ref q), (4, .int i)]) hx hb dL_law_1171 hl (by decide) rfl (fun ls hl => ?_)
  refine lv_aload_n hx hb dL_law_1173 rfl (lv_at hl 3 rfl) ?_
  refine lv_aload_n hx hb dL_law_1174 rfl (lv_at hl 1 rfl) ?_
  refine lv_iload hx hb dL_law_1175 (lv_at hl 5 rfl) ?_
  refine lv_iconst (v := (1 : Int32)) hx hb dL_law_1177 (by decide) ?_
  refine lv_iadd hx hb dL_law_1178 ?_
  refine va_sld hx hb hXs hbl hbA hw.2.2.1 (i := (i + (1 : Int32))) hv1 dL_law_1179 ?_
  refine M_calli hw (LZ_MA hw) (va_runV (own := "LeastreaderLaw") (As := [.int (xs (i + (1 : Int32)).toNatClampNeg)]) (rest := []) ⟨hx, hb, hml, hown, ht⟩ (c_X11_kind ν H.size (xs (i + (1 : Int32)).toNatClampNeg) hq1) (cwV 1 ht (G_V q_1541 q_1542 q_1543 q_56 q_1544) rfl rfl rfl ⟨rfl, vd_66⟩ ⟨Nat.le_of_ble_eq_true rfl, Nat.le_of_ble_eq_true rfl⟩) ⟨MB.blind, M_recv hg.2.1 hw, MB.pre hg.2.1 hJ hw va_P0 ne0⟩ rfl rfl hl.1 rfl (lv_room (Nat.le_of_ble_eq_true rfl)) dL_law_1180 ⟨show cv + 2 + 41 ≤ 600128 by omega, show sv + 12 + 1685 ≤ 7301098 by omega⟩) (fun r2 ν2 H locs hf2 hw => ?_)
  refine lv_istore (lv' := [(6, .int r2), (5, .int r1), (0, .ref b), (1, .ref (ad 0)), (2, .ref (bd 0)), (3, .ref q), (4, .int i)]) hx hb dL_law_1183 hl (by decide) rfl (fun ls hl => ?_)
  refine lv_goto (tgt := 1544) hx hb dL_law_1185 (by decide) ?_
  refine W.widen (show cv + 2 + 41 ≤ cv + 2000 by omega) (show sv + 12 + 1685 ≤ sv + 112000 by omega) ?_
  exact hJ3 μ1 ν2 nv1 sw1 H locs ls hf2 hw (lv_sub hl [2, 3, 4, 5, 6] rfl)
set_option maxHeartbeats 4000000 in
set_option maxRecDepth 100000 in
theorem law_20 {p : Program} {l : Launch} {e : Env} {s : State} {m : MethodId} {b : Nat} {below : List Frame} {meth : Method} {c : Code} {L : Nat} {xs : Nat → Int32} {D : va_G} {ad bd : Nat → Nat} {cI cL cM cB : ClassId} {q : Nat} {Z : State → Prop} {JI : TMem → TMem → Prop} {i : Int32} {cv sv : Nat} (hRI : ∀ {μ ν : TMem}, JI μ ν → RI ν) (hGM : GM_many JI) (C0 : LC p l s m b c L xs D ad bd cI cL cM cB) (hi : 0 ≤ i.toInt) (hiL : i.toInt + 6 ≤ L) (hcv : cv + 2000 ≤ 600128) (hsv : sv + 112000 ≤ 7301098) (hJ3 : LJ p l e s m b below meth c D ad bd cI cM q Z JI i (cv + 2000) (sv + 112000) 1544) : LJ p l e s m b below meth c D ad bd cI cM q Z JI i cv sv 1188 := by
  obtain ⟨hx, hb, hml, hown, ht, hg, hI, hJ, hXs, hbl, hst, hL⟩ := C0
  have hN : NW s := hg.2.2.2.2.1
  have hbA : ¬ SA s.heap.size b := Nat.not_le.mpr hbl
  intro μ ν nv sw H locs ls hJI hw hl
  obtain ⟨⟨hi1, hi2, hi3, hi4, hi5⟩, hv0, hv1, hv2, hv3, hv4, hv5⟩ := lx_ix hi hiL hL
  refine lv_aload_n hx hb dL_law_1188 rfl (lv_at hl 1 rfl) ?_
  refine lv_aload_n hx hb dL_law_1189 rfl (lv_at hl 0 rfl) ?_
  refine lv_iload hx hb dL_law_1190 (lv_at hl 4 rfl) ?_
  refine lv_iconst (v := (1 : Int32)) hx hb dL_law_1192 (by decide) ?_
  refine lv_iadd hx hb dL_law_1193 ?_
  refine va_sld hx hb hXs hbl hbA hw.2.2.1 (i := (i + (1 : Int32))) hv1 dL_law_1194 ?_
  refine lv_aload_n hx hb dL_law_1195 rfl (lv_at hl 0 rfl) ?_
  refine lv_iload hx hb dL_law_1196 (lv_at hl 4 rfl) ?_
  refine lv_iconst (v := (2 : Int32)) hx hb dL_law_1198 (by decide) ?_
  refine lv_iadd hx hb dL_law_1199 ?_
  refine va_sld hx hb hXs hbl hbA hw.2.2.1 (i := (i + (2 : Int32))) hv2 dL_law_1200 ?_
  refine lv_aload_n hx hb dL_law_1201 rfl (lv_at hl 0 rfl) ?_
  refine lv_iload hx hb dL_law_1202 (lv_at hl 4 rfl) ?_
  refine lv_iconst (v := (3 : Int32)) hx hb dL_law_1204 (by decide) ?_
  refine lv_iadd hx hb dL_law_1205 ?_
  refine va_sld hx hb hXs hbl hbA hw.2.2.1 (i := (i + (3 : Int32))) hv3 dL_law_1206 ?_
  refine lv_aload_n hx hb dL_law_1207 rfl (lv_at hl 3 rfl) ?_
  refine LL_call hw hI (vx_runSX (own := "LeastreaderLaw") (As := [.ref (ad 0), .int (xs (i + (1 : Int32)).toNatClampNeg), .int (xs (i + (2 : Int32)).toNatClampNeg), .int (xs (i + (3 : Int32)).toNatClampNeg), .ref q]) (rest := []) ⟨hx, hb, hml, hown, ht⟩ (c_L_many hst q nv sw μ H.size (xs (i + (1 : Int32)).toNatClampNeg) (xs (i + (2 : Int32)).toNatClampNeg) (xs (i + (3 : Int32)).toNatClampNeg) (PW := fun k u => RW_many JI ν (xs (i + (1 : Int32)).toNatClampNeg) (xs (i + (2 : Int32)).toNatClampNeg) (xs (i + (3 : Int32)).toNatClampNeg) k u.2.1 u.1) (hGM μ ν nv (xs (i + (1 : Int32)).toNatClampNeg) (xs (i + (2 : Int32)).toNatClampNeg) (xs (i + (3 : Int32)).toNatClampNeg) hJI)) (vx_cwSW 5 ht (G_S q_1173 q_1174 q_45 q_1175) rfl rfl rfl vd_67 ⟨Nat.le_of_ble_eq_true rfl, Nat.le_of_ble_eq_true rfl⟩) ⟨LB.blind, hg.lb hI hw⟩ rfl rfl hl.1 rfl (lv_room (Nat.le_of_ble_eq_true rfl)) dL_law_1208 ⟨show cv + 4 ≤ 600128 by omega, show sv + 24 ≤ 7301098 by omega⟩) (fun r1 μ1 nv1 sw1 H locs hq1 hw => ?_)
  refine lv_istore (lv' := [(5, .int r1), (0, .ref b), (1, .ref (ad 0)), (2, .ref (bd 0)), (3, .ref q), (4, .int i)]) hx hb dL_law_1211 hl (by decide) rfl (fun ls hl => ?_)
  refine lv_aload_n hx hb dL_law_1213 rfl (lv_at hl 3 rfl) ?_
  refine lv_aload_n hx hb dL_law_1214 rfl (lv_at hl 1 rfl) ?_
  refine lv_iload hx hb dL_law_1215 (lv_at hl 5 rfl) ?_
  refine lv_iconst (v := (1 : Int32)) hx hb dL_law_1217 (by decide) ?_
  refine lv_iadd hx hb dL_law_1218 ?_
  refine va_sld hx hb hXs hbl hbA hw.2.2.1 (i := (i + (1 : Int32))) hv1 dL_law_1219 ?_
  refine lv_aload_n hx hb dL_law_1220 rfl (lv_at hl 1 rfl) ?_
  refine lv_iload hx hb dL_law_1221 (lv_at hl 5 rfl) ?_
  refine lv_iconst (v := (2 : Int32)) hx hb dL_law_1223 (by decide) ?_
  refine lv_iadd hx hb dL_law_1224 ?_
  refine va_sld hx hb hXs hbl hbA hw.2.2.1 (i := (i + (2 : Int32))) hv2 dL_law_1225 ?_
  refine lv_aload_n hx hb dL_law_1226 rfl (lv_at hl 1 rfl) ?_
  refine lv_iload hx hb dL_law_1227 (lv_at hl 5 rfl) ?_
  refine lv_iconst (v := (3 : Int32)) hx hb dL_law_1229 (by decide) ?_
  refine lv_iadd hx hb dL_law_1230 ?_
  refine va_sld hx hb hXs hbl hbA hw.2.2.1 (i := (i + (3 : Int32))) hv3 dL_law_1231 ?_
  refine M_calli hw (LZ_MA hw) (va_runV (own := "LeastreaderLaw") (As := [.int (xs (i + (1 : Int32)).toNatClampNeg), .int (xs (i + (2 : Int32)).toNatClampNeg), .int (xs (i + (3 : Int32)).toNatClampNeg)]) (rest := []) ⟨hx, hb, hml, hown, ht⟩ (c_X11_many ν H.size (xs (i + (1 : Int32)).toNatClampNeg) (xs (i + (2 : Int32)).toNatClampNeg) (xs (i + (3 : Int32)).toNatClampNeg) hq1) (cwV 3 ht (G_V q_1548 q_1549 q_1550 q_56 q_1551) rfl rfl rfl ⟨rfl, vd_68⟩ ⟨Nat.le_of_ble_eq_true rfl, Nat.le_of_ble_eq_true rfl⟩) ⟨MB.blind, M_recv hg.2.1 hw, MB.pre hg.2.1 hJ hw va_P0 ne0⟩ rfl rfl hl.1 rfl (lv_room (Nat.le_of_ble_eq_true rfl)) dL_law_1232 ⟨show cv + 4 + 42 ≤ 600128 by omega, show sv + 24 + 2101 ≤ 7301098 by omega⟩) (fun r2 ν2 H locs hf2 hw => ?_)
  refine lv_istore (lv' := [(6, .int r2), (5, .int r1), (0, .ref b), (1, .ref (ad 0)), (2, .ref (bd 0)), (3, .ref q), (4, .int i)]) hx hb dL_law_1235 hl (by decide) rfl (fun ls hl => ?_)
  refine lv_goto (tgt := 1544) hx hb dL_law_1237 (by decide) ?_
  refine W.widen (show cv + 4 + 42 ≤ cv + 2000 by omega) (show sv + 24 + 2101 ≤ sv + 112000 by omega) ?_
  exact hJ3 μ1 ν2 nv1 sw1 H locs ls hf2 hw (lv_sub hl [2, 3, 4, 5, 6] rfl)
end
/-! part 9p.law3 -/
section
set_option maxHeartbeats 4000000 in
set_option maxRecDepth 100000 in
theorem law_21 {p : Program} {l : Launch} {e : Env} {s : State} {m : MethodId} {b : Nat} {below : List Frame} {meth : Method} {c : Code} {L : Nat} {xs : Nat → Int32} {D : va_G} {ad bd : Nat → Nat} {cI cL cM cB : ClassId} {q : Nat} {Z : State → Prop} {JI : TMem → TMem → Prop} {i : Int32} {cv sv : Nat} (hRI : ∀ {μ ν : TMem}, JI μ ν → RI ν) (hGM : GM_word JI) (C0 : LC p l s m b c L xs D ad bd cI cL cM cB) (hi : 0 ≤ i.toInt) (hiL : i.toInt + 6 ≤ L) (hcv : cv + 2000 ≤ 600128) (hsv : sv + 112000 ≤ 7301098) (hJ3 : LJ p l e s m b below meth c D ad bd cI cM q Z JI i (cv + 2000) (sv + 112000) 1544) : LJ p l e s m b below meth c D ad bd cI cM q Z JI i cv sv 1240 := by
  obtain ⟨hx, hb, hml, hown, ht, hg, hI, hJ, hXs, hbl, hst, hL⟩ := C0
  have hN : NW s := hg.2.2.2.2.1
  have hbA : ¬ SA s.heap.size b := Nat.not_le.mpr hbl
  intro μ ν nv sw H locs ls hJI hw hl
  obtain ⟨⟨hi1, hi2, hi3, hi4, hi5⟩, hv0, hv1, hv2, hv3, hv4, hv5⟩ := lx_ix hi hiL hL
  refine lv_aload_n hx hb dL_law_1240 rfl (lv_at hl 1 rfl) ?_
  refine lv_aload_n hx hb dL_law_1241 rfl (lv_at hl 0 rfl) ?_
  refine lv_iload hx hb dL_law_1242 (lv_at hl 4 rfl) ?_
  refine lv_iconst (v := (1 : Int32)) hx hb dL_law_1244 (by decide) ?_
  refine lv_iadd hx hb dL_law_1245 ?_
  refine va_sld hx hb hXs hbl hbA hw.2.2.1 (i := (i + (1 : Int32))) hv1 dL_law_1246 ?_
  refine lv_aload_n hx hb dL_law_1247 rfl (lv_at hl 0 rfl) ?_
  refine lv_iload hx hb dL_law_1248 (lv_at hl 4 rfl) ?_
  refine lv_iconst (v := (2 : Int32)) hx hb dL_law_1250 (by decide) ?_
  refine lv_iadd hx hb dL_law_1251 ?_
  refine va_sld hx hb hXs hbl hbA hw.2.2.1 (i := (i + (2 : Int32))) hv2 dL_law_1252 ?_
  refine lv_aload_n hx hb dL_law_1253 rfl (lv_at hl 3 rfl) ?_
  refine LL_call hw hI (vx_runSX (own := "LeastreaderLaw") (As := [.ref (ad 0), .int (xs (i + (1 : Int32)).toNatClampNeg), .int (xs (i + (2 : Int32)).toNatClampNeg), .ref q]) (rest := []) ⟨hx, hb, hml, hown, ht⟩ (c_L_word hst q nv sw μ H.size (xs (i + (1 : Int32)).toNatClampNeg) (xs (i + (2 : Int32)).toNatClampNeg) (PW := fun _ u => RW_word JI ν u.1) (hGM μ ν (xs (i + (1 : Int32)).toNatClampNeg) (xs (i + (2 : Int32)).toNatClampNeg) hJI)) (vx_cwSW 4 ht (G_S q_1203 q_1204 q_45 q_1205) rfl rfl rfl vd_69 ⟨Nat.le_of_ble_eq_true rfl, Nat.le_of_ble_eq_true rfl⟩) ⟨LB.blind, hg.lb hI hw⟩ rfl rfl hl.1 rfl (lv_room (Nat.le_of_ble_eq_true rfl)) dL_law_1254 ⟨show cv + 504 ≤ 600128 by omega, show sv + 20019 ≤ 7301098 by omega⟩) (fun r1 μ1 nv1 sw1 H locs hq1 hw => ?_)
  refine lv_istore (lv' := [(5, .int r1), (0, .ref b), (1, .ref (ad 0)), (2, .ref (bd 0)), (3, .ref q), (4, .int i)]) hx hb dL_law_1257 hl (by decide) rfl (fun ls hl => ?_)
  refine lv_aload_n hx hb dL_law_1259 rfl (lv_at hl 3 rfl) ?_
  refine lv_aload_n hx hb dL_law_1260 rfl (lv_at hl 1 rfl) ?_
  refine lv_iload hx hb dL_law_1261 (lv_at hl 5 rfl) ?_
  refine lv_iconst (v := (1 : Int32)) hx hb dL_law_1263 (by decide) ?_
  refine lv_iadd hx hb dL_law_1264 ?_
  refine va_sld hx hb hXs hbl hbA hw.2.2.1 (i := (i + (1 : Int32))) hv1 dL_law_1265 ?_
  refine lv_aload_n hx hb dL_law_1266 rfl (lv_at hl 1 rfl) ?_
  refine lv_iload hx hb dL_law_1267 (lv_at hl 5 rfl) ?_
  refine lv_iconst (v := (2 : Int32)) hx hb dL_law_1269 (by decide) ?_
  refine lv_iadd hx hb dL_law_1270 ?_
  refine va_sld hx hb hXs hbl hbA hw.2.2.1 (i := (i + (2 : Int32))) hv2 dL_law_1271 ?_
  refine MS_callr hw (va_runV (own := "LeastreaderLaw") (As := [.int (xs (i + (1 : Int32)).toNatClampNeg), .int (xs (i + (2 : Int32)).toNatClampNeg)]) (rest := []) ⟨hx, hb, hml, hown, ht⟩ (c_X11_word ν H.size (xs (i + (1 : Int32)).toNatClampNeg) (xs (i + (2 : Int32)).toNatClampNeg) (hRI hJI)) (cwV 2 ht (G_V q_1555 q_1556 q_1557 q_56 q_1558) rfl rfl rfl ⟨rfl, vd_70⟩ ⟨Nat.le_of_ble_eq_true rfl, Nat.le_of_ble_eq_true rfl⟩) ⟨MBS.blind, M_recv hg.2.1 hw, hg.pS hJ hw⟩ rfl rfl hl.1 rfl (lv_room (Nat.le_of_ble_eq_true rfl)) dL_law_1272 ⟨show cv + 504 + 500 ≤ 600128 by omega, show sv + 20019 + 20000 ≤ 7301098 by omega⟩) (fun r2 ν2 H locs hf2 hw => ?_)
  refine lv_astore (lv' := [(6, .ref r2), (5, .int r1), (0, .ref b), (1, .ref (ad 0)), (2, .ref (bd 0)), (3, .ref q), (4, .int i)]) hx hb dL_law_1275 hl (by decide) rfl (fun ls hl => ?_)
  refine lv_goto (tgt := 1544) hx hb dL_law_1277 (by decide) ?_
  refine W.widen (show cv + 504 + 500 ≤ cv + 2000 by omega) (show sv + 20019 + 20000 ≤ sv + 112000 by omega) ?_
  exact hJ3 μ1 ν2 nv1 sw1 H locs ls (hq1 _ hf2) hw (lv_sub hl [2, 3, 4, 5, 6] rfl)
set_option maxHeartbeats 4000000 in
set_option maxRecDepth 100000 in
theorem law_22 {p : Program} {l : Launch} {e : Env} {s : State} {m : MethodId} {b : Nat} {below : List Frame} {meth : Method} {c : Code} {L : Nat} {xs : Nat → Int32} {D : va_G} {ad bd : Nat → Nat} {cI cL cM cB : ClassId} {q : Nat} {Z : State → Prop} {JI : TMem → TMem → Prop} {i : Int32} {cv sv : Nat} (hRI : ∀ {μ ν : TMem}, JI μ ν → RI ν) (hGM : GM_isAlike JI) (C0 : LC p l s m b c L xs D ad bd cI cL cM cB) (hi : 0 ≤ i.toInt) (hiL : i.toInt + 6 ≤ L) (hcv : cv + 2000 ≤ 600128) (hsv : sv + 112000 ≤ 7301098) (hJ3 : LJ p l e s m b below meth c D ad bd cI cM q Z JI i (cv + 2000) (sv + 112000) 1544) : LJ p l e s m b below meth c D ad bd cI cM q Z JI i cv sv 1280 := by
  obtain ⟨hx, hb, hml, hown, ht, hg, hI, hJ, hXs, hbl, hst, hL⟩ := C0
  have hN : NW s := hg.2.2.2.2.1
  have hbA : ¬ SA s.heap.size b := Nat.not_le.mpr hbl
  intro μ ν nv sw H locs ls hJI hw hl
  obtain ⟨⟨hi1, hi2, hi3, hi4, hi5⟩, hv0, hv1, hv2, hv3, hv4, hv5⟩ := lx_ix hi hiL hL
  refine lv_aload_n hx hb dL_law_1280 rfl (lv_at hl 1 rfl) ?_
  refine lv_aload_n hx hb dL_law_1281 rfl (lv_at hl 0 rfl) ?_
  refine lv_iload hx hb dL_law_1282 (lv_at hl 4 rfl) ?_
  refine lv_iconst (v := (1 : Int32)) hx hb dL_law_1284 (by decide) ?_
  refine lv_iadd hx hb dL_law_1285 ?_
  refine va_sld hx hb hXs hbl hbA hw.2.2.1 (i := (i + (1 : Int32))) hv1 dL_law_1286 ?_
  refine lv_aload_n hx hb dL_law_1287 rfl (lv_at hl 0 rfl) ?_
  refine lv_iload hx hb dL_law_1288 (lv_at hl 4 rfl) ?_
  refine lv_iconst (v := (2 : Int32)) hx hb dL_law_1290 (by decide) ?_
  refine lv_iadd hx hb dL_law_1291 ?_
  refine va_sld hx hb hXs hbl hbA hw.2.2.1 (i := (i + (2 : Int32))) hv2 dL_law_1292 ?_
  refine lv_aload_n hx hb dL_law_1293 rfl (lv_at hl 0 rfl) ?_
  refine lv_iload hx hb dL_law_1294 (lv_at hl 4 rfl) ?_
  refine lv_iconst (v := (3 : Int32)) hx hb dL_law_1296 (by decide) ?_
  refine lv_iadd hx hb dL_law_1297 ?_
  refine va_sld hx hb hXs hbl hbA hw.2.2.1 (i := (i + (3 : Int32))) hv3 dL_law_1298 ?_
  refine lv_aload_n hx hb dL_law_1299 rfl (lv_at hl 3 rfl) ?_
  refine LL_call hw hI (vx_runSX (own := "LeastreaderLaw") (As := [.ref (ad 0), .int (xs (i + (1 : Int32)).toNatClampNeg), .int (xs (i + (2 : Int32)).toNatClampNeg), .int (xs (i + (3 : Int32)).toNatClampNeg), .ref q]) (rest := []) ⟨hx, hb, hml, hown, ht⟩ (c_L_isAlike hst q nv sw μ H.size (xs (i + (1 : Int32)).toNatClampNeg) (xs (i + (2 : Int32)).toNatClampNeg) (xs (i + (3 : Int32)).toNatClampNeg) (PW := fun k u => RW_isAlike JI ν (xs (i + (1 : Int32)).toNatClampNeg) (xs (i + (2 : Int32)).toNatClampNeg) (xs (i + (3 : Int32)).toNatClampNeg) k u.2.1 u.1) (hGM μ ν nv (xs (i + (1 : Int32)).toNatClampNeg) (xs (i + (2 : Int32)).toNatClampNeg) (xs (i + (3 : Int32)).toNatClampNeg) hJI)) (vx_cwSW 5 ht (G_S q_1227 q_1228 q_45 q_1229) rfl rfl rfl vd_71 ⟨Nat.le_of_ble_eq_true rfl, Nat.le_of_ble_eq_true rfl⟩) ⟨LB.blind, hg.lb hI hw⟩ rfl rfl hl.1 rfl (lv_room (Nat.le_of_ble_eq_true rfl)) dL_law_1300 ⟨show cv + 6 ≤ 600128 by omega, show sv + 36 ≤ 7301098 by omega⟩) (fun r1 μ1 nv1 sw1 H locs hq1 hw => ?_)
  refine lv_istore (lv' := [(5, .int r1), (0, .ref b), (1, .ref (ad 0)), (2, .ref (bd 0)), (3, .ref q), (4, .int i)]) hx hb dL_law_1303 hl (by decide) rfl (fun ls hl => ?_)
  refine lv_aload_n hx hb dL_law_1305 rfl (lv_at hl 3 rfl) ?_
  refine lv_aload_n hx hb dL_law_1306 rfl (lv_at hl 1 rfl) ?_
  refine lv_iload hx hb dL_law_1307 (lv_at hl 5 rfl) ?_
  refine lv_iconst (v := (1 : Int32)) hx hb dL_law_1309 (by decide) ?_
  refine lv_iadd hx hb dL_law_1310 ?_
  refine va_sld hx hb hXs hbl hbA hw.2.2.1 (i := (i + (1 : Int32))) hv1 dL_law_1311 ?_
  refine lv_aload_n hx hb dL_law_1312 rfl (lv_at hl 1 rfl) ?_
  refine lv_iload hx hb dL_law_1313 (lv_at hl 5 rfl) ?_
  refine lv_iconst (v := (2 : Int32)) hx hb dL_law_1315 (by decide) ?_
  refine lv_iadd hx hb dL_law_1316 ?_
  refine va_sld hx hb hXs hbl hbA hw.2.2.1 (i := (i + (2 : Int32))) hv2 dL_law_1317 ?_
  refine lv_aload_n hx hb dL_law_1318 rfl (lv_at hl 1 rfl) ?_
  refine lv_iload hx hb dL_law_1319 (lv_at hl 5 rfl) ?_
  refine lv_iconst (v := (3 : Int32)) hx hb dL_law_1321 (by decide) ?_
  refine lv_iadd hx hb dL_law_1322 ?_
  refine va_sld hx hb hXs hbl hbA hw.2.2.1 (i := (i + (3 : Int32))) hv3 dL_law_1323 ?_
  refine M_calli hw (LZ_MA hw) (va_runV (own := "LeastreaderLaw") (As := [.int (xs (i + (1 : Int32)).toNatClampNeg), .int (xs (i + (2 : Int32)).toNatClampNeg), .int (xs (i + (3 : Int32)).toNatClampNeg)]) (rest := []) ⟨hx, hb, hml, hown, ht⟩ (c_X11_isAlike ν H.size (xs (i + (1 : Int32)).toNatClampNeg) (xs (i + (2 : Int32)).toNatClampNeg) (xs (i + (3 : Int32)).toNatClampNeg) hq1) (cwV 3 ht (G_V q_1559 q_1560 q_1561 q_56 q_1562) rfl rfl rfl ⟨rfl, vd_72⟩ ⟨Nat.le_of_ble_eq_true rfl, Nat.le_of_ble_eq_true rfl⟩) ⟨MB.blind, M_recv hg.2.1 hw, MB.pre hg.2.1 hJ hw va_P0 ne0⟩ rfl rfl hl.1 rfl (lv_room (Nat.le_of_ble_eq_true rfl)) dL_law_1324 ⟨show cv + 6 + 82 ≤ 600128 by omega, show sv + 36 + 3370 ≤ 7301098 by omega⟩) (fun r2 ν2 H locs hf2 hw => ?_)
  refine lv_istore (lv' := [(6, .int r2), (5, .int r1), (0, .ref b), (1, .ref (ad 0)), (2, .ref (bd 0)), (3, .ref q), (4, .int i)]) hx hb dL_law_1327 hl (by decide) rfl (fun ls hl => ?_)
  refine lv_goto (tgt := 1544) hx hb dL_law_1329 (by decide) ?_
  refine W.widen (show cv + 6 + 82 ≤ cv + 2000 by omega) (show sv + 36 + 3370 ≤ sv + 112000 by omega) ?_
  exact hJ3 μ1 ν2 nv1 sw1 H locs ls hf2 hw (lv_sub hl [2, 3, 4, 5, 6] rfl)
set_option maxHeartbeats 4000000 in
set_option maxRecDepth 100000 in
theorem law_23 {p : Program} {l : Launch} {e : Env} {s : State} {m : MethodId} {b : Nat} {below : List Frame} {meth : Method} {c : Code} {L : Nat} {xs : Nat → Int32} {D : va_G} {ad bd : Nat → Nat} {cI cL cM cB : ClassId} {q : Nat} {Z : State → Prop} {JI : TMem → TMem → Prop} {i : Int32} {cv sv : Nat} (hRI : ∀ {μ ν : TMem}, JI μ ν → RI ν) (hGM : GM_apart JI) (C0 : LC p l s m b c L xs D ad bd cI cL cM cB) (hi : 0 ≤ i.toInt) (hiL : i.toInt + 6 ≤ L) (hcv : cv + 2000 ≤ 600128) (hsv : sv + 112000 ≤ 7301098) (hJ3 : LJ p l e s m b below meth c D ad bd cI cM q Z JI i (cv + 2000) (sv + 112000) 1544) : LJ p l e s m b below meth c D ad bd cI cM q Z JI i cv sv 1332 := by
  obtain ⟨hx, hb, hml, hown, ht, hg, hI, hJ, hXs, hbl, hst, hL⟩ := C0
  have hN : NW s := hg.2.2.2.2.1
  have hbA : ¬ SA s.heap.size b := Nat.not_le.mpr hbl
  intro μ ν nv sw H locs ls hJI hw hl
  obtain ⟨⟨hi1, hi2, hi3, hi4, hi5⟩, hv0, hv1, hv2, hv3, hv4, hv5⟩ := lx_ix hi hiL hL
  refine lv_aload_n hx hb dL_law_1332 rfl (lv_at hl 1 rfl) ?_
  refine lv_aload_n hx hb dL_law_1333 rfl (lv_at hl 0 rfl) ?_
  refine lv_iload hx hb dL_law_1334 (lv_at hl 4 rfl) ?_
  refine lv_iconst (v := (1 : Int32)) hx hb dL_law_1336 (by decide) ?_
  refine lv_iadd hx hb dL_law_1337 ?_
  refine va_sld hx hb hXs hbl hbA hw.2.2.1 (i := (i + (1 : Int32))) hv1 dL_law_1338 ?_
  refine lv_aload_n hx hb dL_law_1339 rfl (lv_at hl 0 rfl) ?_
  refine lv_iload hx hb dL_law_1340 (lv_at hl 4 rfl) ?_
  refine lv_iconst (v := (2 : Int32)) hx hb dL_law_1342 (by decide) ?_
  refine lv_iadd hx hb dL_law_1343 ?_
  refine va_sld hx hb hXs hbl hbA hw.2.2.1 (i := (i + (2 : Int32))) hv2 dL_law_1344 ?_
  refine lv_aload_n hx hb dL_law_1345 rfl (lv_at hl 3 rfl) ?_
  refine LL_call hw hI (vx_runSX (own := "LeastreaderLaw") (As := [.ref (ad 0), .int (xs (i + (1 : Int32)).toNatClampNeg), .int (xs (i + (2 : Int32)).toNatClampNeg), .ref q]) (rest := []) ⟨hx, hb, hml, hown, ht⟩ (c_L_apart hst q nv sw μ H.size (xs (i + (1 : Int32)).toNatClampNeg) (xs (i + (2 : Int32)).toNatClampNeg) (PW := fun _ u => RW_apart JI ν u.1) (hGM μ ν (xs (i + (1 : Int32)).toNatClampNeg) (xs (i + (2 : Int32)).toNatClampNeg) hJI)) (vx_cwSW 4 ht (G_S q_1238 q_1239 q_45 q_1240) rfl rfl rfl vd_73 ⟨Nat.le_of_ble_eq_true rfl, Nat.le_of_ble_eq_true rfl⟩) ⟨LB.blind, hg.lb hI hw⟩ rfl rfl hl.1 rfl (lv_room (Nat.le_of_ble_eq_true rfl)) dL_law_1346 ⟨show cv + 503 ≤ 600128 by omega, show sv + 20018 ≤ 7301098 by omega⟩) (fun r1 μ1 nv1 sw1 H locs hq1 hw => ?_)
  refine lv_istore (lv' := [(5, .int r1), (0, .ref b), (1, .ref (ad 0)), (2, .ref (bd 0)), (3, .ref q), (4, .int i)]) hx hb dL_law_1349 hl (by decide) rfl (fun ls hl => ?_)
  refine lv_aload_n hx hb dL_law_1351 rfl (lv_at hl 3 rfl) ?_
  refine lv_aload_n hx hb dL_law_1352 rfl (lv_at hl 1 rfl) ?_
  refine lv_iload hx hb dL_law_1353 (lv_at hl 5 rfl) ?_
  refine lv_iconst (v := (1 : Int32)) hx hb dL_law_1355 (by decide) ?_
  refine lv_iadd hx hb dL_law_1356 ?_
  refine va_sld hx hb hXs hbl hbA hw.2.2.1 (i := (i + (1 : Int32))) hv1 dL_law_1357 ?_
  refine lv_aload_n hx hb dL_law_1358 rfl (lv_at hl 1 rfl) ?_
  refine lv_iload hx hb dL_law_1359 (lv_at hl 5 rfl) ?_
  refine lv_iconst (v := (2 : Int32)) hx hb dL_law_1361 (by decide) ?_
  refine lv_iadd hx hb dL_law_1362 ?_
  refine va_sld hx hb hXs hbl hbA hw.2.2.1 (i := (i + (2 : Int32))) hv2 dL_law_1363 ?_
  refine MS_callr hw (va_runV (own := "LeastreaderLaw") (As := [.int (xs (i + (1 : Int32)).toNatClampNeg), .int (xs (i + (2 : Int32)).toNatClampNeg)]) (rest := []) ⟨hx, hb, hml, hown, ht⟩ (c_X11_apart ν H.size (xs (i + (1 : Int32)).toNatClampNeg) (xs (i + (2 : Int32)).toNatClampNeg) (hRI hJI)) (cwV 2 ht (G_V q_1571 q_1572 q_1573 q_56 q_1574) rfl rfl rfl ⟨rfl, vd_74⟩ ⟨Nat.le_of_ble_eq_true rfl, Nat.le_of_ble_eq_true rfl⟩) ⟨MBS.blind, M_recv hg.2.1 hw, hg.pS hJ hw⟩ rfl rfl hl.1 rfl (lv_room (Nat.le_of_ble_eq_true rfl)) dL_law_1364 ⟨show cv + 503 + 1400 ≤ 600128 by omega, show sv + 20018 + 91500 ≤ 7301098 by omega⟩) (fun r2 ν2 H locs hf2 hw => ?_)
  refine lv_astore (lv' := [(6, .ref r2), (5, .int r1), (0, .ref b), (1, .ref (ad 0)), (2, .ref (bd 0)), (3, .ref q), (4, .int i)]) hx hb dL_law_1367 hl (by decide) rfl (fun ls hl => ?_)
  refine lv_goto (tgt := 1544) hx hb dL_law_1369 (by decide) ?_
  refine W.widen (show cv + 503 + 1400 ≤ cv + 2000 by omega) (show sv + 20018 + 91500 ≤ sv + 112000 by omega) ?_
  exact hJ3 μ1 ν2 nv1 sw1 H locs ls (hq1 _ hf2) hw (lv_sub hl [2, 3, 4, 5, 6] rfl)
set_option maxHeartbeats 4000000 in
set_option maxRecDepth 100000 in
theorem law_24 {p : Program} {l : Launch} {e : Env} {s : State} {m : MethodId} {b : Nat} {below : List Frame} {meth : Method} {c : Code} {L : Nat} {xs : Nat → Int32} {D : va_G} {ad bd : Nat → Nat} {cI cL cM cB : ClassId} {q : Nat} {Z : State → Prop} {JI : TMem → TMem → Prop} {i : Int32} {cv sv : Nat} (hRI : ∀ {μ ν : TMem}, JI μ ν → RI ν) (hGM : GM_pairs JI) (C0 : LC p l s m b c L xs D ad bd cI cL cM cB) (hi : 0 ≤ i.toInt) (hiL : i.toInt + 6 ≤ L) (hcv : cv + 2000 ≤ 600128) (hsv : sv + 112000 ≤ 7301098) (hJ3 : LJ p l e s m b below meth c D ad bd cI cM q Z JI i (cv + 2000) (sv + 112000) 1544) : LJ p l e s m b below meth c D ad bd cI cM q Z JI i cv sv 1372 := by
  obtain ⟨hx, hb, hml, hown, ht, hg, hI, hJ, hXs, hbl, hst, hL⟩ := C0
  have hN : NW s := hg.2.2.2.2.1
  have hbA : ¬ SA s.heap.size b := Nat.not_le.mpr hbl
  intro μ ν nv sw H locs ls hJI hw hl
  obtain ⟨⟨hi1, hi2, hi3, hi4, hi5⟩, hv0, hv1, hv2, hv3, hv4, hv5⟩ := lx_ix hi hiL hL
  refine lv_aload_n hx hb dL_law_1372 rfl (lv_at hl 1 rfl) ?_
  refine lv_aload_n hx hb dL_law_1373 rfl (lv_at hl 0 rfl) ?_
  refine lv_iload hx hb dL_law_1374 (lv_at hl 4 rfl) ?_
  refine lv_iconst (v := (1 : Int32)) hx hb dL_law_1376 (by decide) ?_
  refine lv_iadd hx hb dL_law_1377 ?_
  refine va_sld hx hb hXs hbl hbA hw.2.2.1 (i := (i + (1 : Int32))) hv1 dL_law_1378 ?_
  refine lv_aload_n hx hb dL_law_1379 rfl (lv_at hl 0 rfl) ?_
  refine lv_iload hx hb dL_law_1380 (lv_at hl 4 rfl) ?_
  refine lv_iconst (v := (2 : Int32)) hx hb dL_law_1382 (by decide) ?_
  refine lv_iadd hx hb dL_law_1383 ?_
  refine va_sld hx hb hXs hbl hbA hw.2.2.1 (i := (i + (2 : Int32))) hv2 dL_law_1384 ?_
  refine lv_aload_n hx hb dL_law_1385 rfl (lv_at hl 3 rfl) ?_
  refine LL_call hw hI (vx_runSX (own := "LeastreaderLaw") (As := [.ref (ad 0), .int (xs (i + (1 : Int32)).toNatClampNeg), .int (xs (i + (2 : Int32)).toNatClampNeg), .ref q]) (rest := []) ⟨hx, hb, hml, hown, ht⟩ (c_L_pairs hst q nv sw μ H.size (xs (i + (1 : Int32)).toNatClampNeg) (xs (i + (2 : Int32)).toNatClampNeg) (PW := fun k u => RW_pairs JI ν (xs (i + (1 : Int32)).toNatClampNeg) (xs (i + (2 : Int32)).toNatClampNeg) k u.2.1 u.1) (hGM μ ν nv (xs (i + (1 : Int32)).toNatClampNeg) (xs (i + (2 : Int32)).toNatClampNeg) hJI)) (vx_cwSW 4 ht (G_S q_1286 q_1287 q_45 q_1288) rfl rfl rfl vd_75 ⟨Nat.le_of_ble_eq_true rfl, Nat.le_of_ble_eq_true rfl⟩) ⟨LB.blind, hg.lb hI hw⟩ rfl rfl hl.1 rfl (lv_room (Nat.le_of_ble_eq_true rfl)) dL_law_1386 ⟨show cv + 3 ≤ 600128 by omega, show sv + 18 ≤ 7301098 by omega⟩) (fun r1 μ1 nv1 sw1 H locs hq1 hw => ?_)
  refine lv_istore (lv' := [(5, .int r1), (0, .ref b), (1, .ref (ad 0)), (2, .ref (bd 0)), (3, .ref q), (4, .int i)]) hx hb dL_law_1389 hl (by decide) rfl (fun ls hl => ?_)
  refine lv_aload_n hx hb dL_law_1391 rfl (lv_at hl 3 rfl) ?_
  refine lv_aload_n hx hb dL_law_1392 rfl (lv_at hl 1 rfl) ?_
  refine lv_iload hx hb dL_law_1393 (lv_at hl 5 rfl) ?_
  refine lv_iconst (v := (1 : Int32)) hx hb dL_law_1395 (by decide) ?_
  refine lv_iadd hx hb dL_law_1396 ?_
  refine va_sld hx hb hXs hbl hbA hw.2.2.1 (i := (i + (1 : Int32))) hv1 dL_law_1397 ?_
  refine lv_aload_n hx hb dL_law_1398 rfl (lv_at hl 1 rfl) ?_
  refine lv_iload hx hb dL_law_1399 (lv_at hl 5 rfl) ?_
  refine lv_iconst (v := (2 : Int32)) hx hb dL_law_1401 (by decide) ?_
  refine lv_iadd hx hb dL_law_1402 ?_
  refine va_sld hx hb hXs hbl hbA hw.2.2.1 (i := (i + (2 : Int32))) hv2 dL_law_1403 ?_
  refine M_calli hw (LZ_MA hw) (va_runV (own := "LeastreaderLaw") (As := [.int (xs (i + (1 : Int32)).toNatClampNeg), .int (xs (i + (2 : Int32)).toNatClampNeg)]) (rest := []) ⟨hx, hb, hml, hown, ht⟩ (c_X11_pairs ν H.size (xs (i + (1 : Int32)).toNatClampNeg) (xs (i + (2 : Int32)).toNatClampNeg) hq1) (cwV 2 ht (G_V q_1576 q_1577 q_1578 q_56 q_1579) rfl rfl rfl ⟨rfl, vd_76⟩ ⟨Nat.le_of_ble_eq_true rfl, Nat.le_of_ble_eq_true rfl⟩) ⟨MB.blind, M_recv hg.2.1 hw, MB.pre hg.2.1 hJ hw va_P0 ne0⟩ rfl rfl hl.1 rfl (lv_room (Nat.le_of_ble_eq_true rfl)) dL_law_1404 ⟨show cv + 3 + 9 ≤ 600128 by omega, show sv + 18 + 1222 ≤ 7301098 by omega⟩) (fun r2 ν2 H locs hf2 hw => ?_)
  refine lv_istore (lv' := [(6, .int r2), (5, .int r1), (0, .ref b), (1, .ref (ad 0)), (2, .ref (bd 0)), (3, .ref q), (4, .int i)]) hx hb dL_law_1407 hl (by decide) rfl (fun ls hl => ?_)
  refine lv_goto (tgt := 1544) hx hb dL_law_1409 (by decide) ?_
  refine W.widen (show cv + 3 + 9 ≤ cv + 2000 by omega) (show sv + 18 + 1222 ≤ sv + 112000 by omega) ?_
  exact hJ3 μ1 ν2 nv1 sw1 H locs ls hf2 hw (lv_sub hl [2, 3, 4, 5, 6] rfl)
set_option maxHeartbeats 4000000 in
set_option maxRecDepth 100000 in
theorem law_25 {p : Program} {l : Launch} {e : Env} {s : State} {m : MethodId} {b : Nat} {below : List Frame} {meth : Method} {c : Code} {L : Nat} {xs : Nat → Int32} {D : va_G} {ad bd : Nat → Nat} {cI cL cM cB : ClassId} {q : Nat} {Z : State → Prop} {JI : TMem → TMem → Prop} {i : Int32} {cv sv : Nat} (hRI : ∀ {μ ν : TMem}, JI μ ν → RI ν) (hGM : GM_together JI) (C0 : LC p l s m b c L xs D ad bd cI cL cM cB) (hi : 0 ≤ i.toInt) (hiL : i.toInt + 6 ≤ L) (hcv : cv + 2000 ≤ 600128) (hsv : sv + 112000 ≤ 7301098) (hJ3 : LJ p l e s m b below meth c D ad bd cI cM q Z JI i (cv + 2000) (sv + 112000) 1544) : LJ p l e s m b below meth c D ad bd cI cM q Z JI i cv sv 1412 := by
  obtain ⟨hx, hb, hml, hown, ht, hg, hI, hJ, hXs, hbl, hst, hL⟩ := C0
  have hN : NW s := hg.2.2.2.2.1
  have hbA : ¬ SA s.heap.size b := Nat.not_le.mpr hbl
  intro μ ν nv sw H locs ls hJI hw hl
  obtain ⟨⟨hi1, hi2, hi3, hi4, hi5⟩, hv0, hv1, hv2, hv3, hv4, hv5⟩ := lx_ix hi hiL hL
  refine lv_aload_n hx hb dL_law_1412 rfl (lv_at hl 1 rfl) ?_
  refine lv_aload_n hx hb dL_law_1413 rfl (lv_at hl 0 rfl) ?_
  refine lv_iload hx hb dL_law_1414 (lv_at hl 4 rfl) ?_
  refine lv_iconst (v := (1 : Int32)) hx hb dL_law_1416 (by decide) ?_
  refine lv_iadd hx hb dL_law_1417 ?_
  refine va_sld hx hb hXs hbl hbA hw.2.2.1 (i := (i + (1 : Int32))) hv1 dL_law_1418 ?_
  refine lv_aload_n hx hb dL_law_1419 rfl (lv_at hl 0 rfl) ?_
  refine lv_iload hx hb dL_law_1420 (lv_at hl 4 rfl) ?_
  refine lv_iconst (v := (2 : Int32)) hx hb dL_law_1422 (by decide) ?_
  refine lv_iadd hx hb dL_law_1423 ?_
  refine va_sld hx hb hXs hbl hbA hw.2.2.1 (i := (i + (2 : Int32))) hv2 dL_law_1424 ?_
  refine lv_aload_n hx hb dL_law_1425 rfl (lv_at hl 0 rfl) ?_
  refine lv_iload hx hb dL_law_1426 (lv_at hl 4 rfl) ?_
  refine lv_iconst (v := (3 : Int32)) hx hb dL_law_1428 (by decide) ?_
  refine lv_iadd hx hb dL_law_1429 ?_
  refine va_sld hx hb hXs hbl hbA hw.2.2.1 (i := (i + (3 : Int32))) hv3 dL_law_1430 ?_
  refine lv_aload_n hx hb dL_law_1431 rfl (lv_at hl 0 rfl) ?_
  refine lv_iload hx hb dL_law_1432 (lv_at hl 4 rfl) ?_
  refine lv_iconst (v := (4 : Int32)) hx hb dL_law_1434 (by decide) ?_
  refine lv_iadd hx hb dL_law_1435 ?_
  refine va_sld hx hb hXs hbl hbA hw.2.2.1 (i := (i + (4 : Int32))) hv4 dL_law_1436 ?_
  refine lv_aload_n hx hb dL_law_1437 rfl (lv_at hl 3 rfl) ?_
  refine LL_call hw hI (vx_runSX (own := "LeastreaderLaw") (As := [.ref (ad 0), .int (xs (i + (1 : Int32)).toNatClampNeg), .int (xs (i + (2 : Int32)).toNatClampNeg), .int (xs (i + (3 : Int32)).toNatClampNeg), .int (xs (i + (4 : Int32)).toNatClampNeg), .ref q]) (rest := []) ⟨hx, hb, hml, hown, ht⟩ (c_L_together hst q nv sw μ H.size (xs (i + (1 : Int32)).toNatClampNeg) (xs (i + (2 : Int32)).toNatClampNeg) (xs (i + (3 : Int32)).toNatClampNeg) (xs (i + (4 : Int32)).toNatClampNeg) (PW := fun k u => RW_together JI ν (xs (i + (1 : Int32)).toNatClampNeg) (xs (i + (2 : Int32)).toNatClampNeg) (xs (i + (3 : Int32)).toNatClampNeg) (xs (i + (4 : Int32)).toNatClampNeg) k u.2.1 u.1) (hGM μ ν nv (xs (i + (1 : Int32)).toNatClampNeg) (xs (i + (2 : Int32)).toNatClampNeg) (xs (i + (3 : Int32)).toNatClampNeg) (xs (i + (4 : Int32)).toNatClampNeg) hJI)) (vx_cwSW 6 ht (G_S q_1293 q_1294 q_45 q_1295) rfl rfl rfl vd_77 ⟨Nat.le_of_ble_eq_true rfl, Nat.le_of_ble_eq_true rfl⟩) ⟨LB.blind, hg.lb hI hw⟩ rfl rfl hl.1 rfl (lv_room (Nat.le_of_ble_eq_true rfl)) dL_law_1438 ⟨show cv + 5 ≤ 600128 by omega, show sv + 30 ≤ 7301098 by omega⟩) (fun r1 μ1 nv1 sw1 H locs hq1 hw => ?_)
  refine lv_istore (lv' := [(5, .int r1), (0, .ref b), (1, .ref (ad 0)), (2, .ref (bd 0)), (3, .ref q), (4, .int i)]) hx hb dL_law_1441 hl (by decide) rfl (fun ls hl => ?_)
  refine lv_aload_n hx hb dL_law_1443 rfl (lv_at hl 3 rfl) ?_
  refine lv_aload_n hx hb dL_law_1444 rfl (lv_at hl 1 rfl) ?_
  refine lv_iload hx hb dL_law_1445 (lv_at hl 5 rfl) ?_
  refine lv_iconst (v := (1 : Int32)) hx hb dL_law_1447 (by decide) ?_
  refine lv_iadd hx hb dL_law_1448 ?_
  refine va_sld hx hb hXs hbl hbA hw.2.2.1 (i := (i + (1 : Int32))) hv1 dL_law_1449 ?_
  refine lv_aload_n hx hb dL_law_1450 rfl (lv_at hl 1 rfl) ?_
  refine lv_iload hx hb dL_law_1451 (lv_at hl 5 rfl) ?_
  refine lv_iconst (v := (2 : Int32)) hx hb dL_law_1453 (by decide) ?_
  refine lv_iadd hx hb dL_law_1454 ?_
  refine va_sld hx hb hXs hbl hbA hw.2.2.1 (i := (i + (2 : Int32))) hv2 dL_law_1455 ?_
  refine lv_aload_n hx hb dL_law_1456 rfl (lv_at hl 1 rfl) ?_
  refine lv_iload hx hb dL_law_1457 (lv_at hl 5 rfl) ?_
  refine lv_iconst (v := (3 : Int32)) hx hb dL_law_1459 (by decide) ?_
  refine lv_iadd hx hb dL_law_1460 ?_
  refine va_sld hx hb hXs hbl hbA hw.2.2.1 (i := (i + (3 : Int32))) hv3 dL_law_1461 ?_
  refine lv_aload_n hx hb dL_law_1462 rfl (lv_at hl 1 rfl) ?_
  refine lv_iload hx hb dL_law_1463 (lv_at hl 5 rfl) ?_
  refine lv_iconst (v := (4 : Int32)) hx hb dL_law_1465 (by decide) ?_
  refine lv_iadd hx hb dL_law_1466 ?_
  refine va_sld hx hb hXs hbl hbA hw.2.2.1 (i := (i + (4 : Int32))) hv4 dL_law_1467 ?_
  refine M_calli hw (LZ_MA hw) (va_runV (own := "LeastreaderLaw") (As := [.int (xs (i + (1 : Int32)).toNatClampNeg), .int (xs (i + (2 : Int32)).toNatClampNeg), .int (xs (i + (3 : Int32)).toNatClampNeg), .int (xs (i + (4 : Int32)).toNatClampNeg)]) (rest := []) ⟨hx, hb, hml, hown, ht⟩ (c_X11_together ν H.size (xs (i + (1 : Int32)).toNatClampNeg) (xs (i + (2 : Int32)).toNatClampNeg) (xs (i + (3 : Int32)).toNatClampNeg) (xs (i + (4 : Int32)).toNatClampNeg) hq1) (cwV 4 ht (G_V q_1580 q_1581 q_1582 q_56 q_1583) rfl rfl rfl ⟨rfl, vd_78⟩ ⟨Nat.le_of_ble_eq_true rfl, Nat.le_of_ble_eq_true rfl⟩) ⟨MB.blind, M_recv hg.2.1 hw, MB.pre hg.2.1 hJ hw va_P0 ne0⟩ rfl rfl hl.1 rfl (lv_room (Nat.le_of_ble_eq_true rfl)) dL_law_1468 ⟨show cv + 5 + 48 ≤ 600128 by omega, show sv + 30 + 3142 ≤ 7301098 by omega⟩) (fun r2 ν2 H locs hf2 hw => ?_)
  refine lv_istore (lv' := [(6, .int r2), (5, .int r1), (0, .ref b), (1, .ref (ad 0)), (2, .ref (bd 0)), (3, .ref q), (4, .int i)]) hx hb dL_law_1471 hl (by decide) rfl (fun ls hl => ?_)
  refine lv_goto (tgt := 1544) hx hb dL_law_1473 (by decide) ?_
  refine W.widen (show cv + 5 + 48 ≤ cv + 2000 by omega) (show sv + 30 + 3142 ≤ sv + 112000 by omega) ?_
  exact hJ3 μ1 ν2 nv1 sw1 H locs ls hf2 hw (lv_sub hl [2, 3, 4, 5, 6] rfl)
set_option maxHeartbeats 4000000 in
set_option maxRecDepth 100000 in
theorem law_26 {p : Program} {l : Launch} {e : Env} {s : State} {m : MethodId} {b : Nat} {below : List Frame} {meth : Method} {c : Code} {L : Nat} {xs : Nat → Int32} {D : va_G} {ad bd : Nat → Nat} {cI cL cM cB : ClassId} {q : Nat} {Z : State → Prop} {JI : TMem → TMem → Prop} {i : Int32} {cv sv : Nat} (hRI : ∀ {μ ν : TMem}, JI μ ν → RI ν) (hGM : GM_house JI) (C0 : LC p l s m b c L xs D ad bd cI cL cM cB) (hi : 0 ≤ i.toInt) (hiL : i.toInt + 6 ≤ L) (hcv : cv + 2000 ≤ 600128) (hsv : sv + 112000 ≤ 7301098) (hJ3 : LJ p l e s m b below meth c D ad bd cI cM q Z JI i (cv + 2000) (sv + 112000) 1544) : LJ p l e s m b below meth c D ad bd cI cM q Z JI i cv sv 1476 := by
  obtain ⟨hx, hb, hml, hown, ht, hg, hI, hJ, hXs, hbl, hst, hL⟩ := C0
  have hN : NW s := hg.2.2.2.2.1
  have hbA : ¬ SA s.heap.size b := Nat.not_le.mpr hbl
  intro μ ν nv sw H locs ls hJI hw hl
  obtain ⟨⟨hi1, hi2, hi3, hi4, hi5⟩, hv0, hv1, hv2, hv3, hv4, hv5⟩ := lx_ix hi hiL hL
  refine lv_aload_n hx hb dL_law_1476 rfl (lv_at hl 1 rfl) ?_
  refine lv_aload_n hx hb dL_law_1477 rfl (lv_at hl 0 rfl) ?_
  refine lv_iload hx hb dL_law_1478 (lv_at hl 4 rfl) ?_
  refine lv_iconst (v := (1 : Int32)) hx hb dL_law_1480 (by decide) ?_
  refine lv_iadd hx hb dL_law_1481 ?_
  refine va_sld hx hb hXs hbl hbA hw.2.2.1 (i := (i + (1 : Int32))) hv1 dL_law_1482 ?_
  refine lv_aload_n hx hb dL_law_1483 rfl (lv_at hl 3 rfl) ?_
  refine LL_call hw hI (vx_runSX (own := "LeastreaderLaw") (As := [.ref (ad 0), .int (xs (i + (1 : Int32)).toNatClampNeg), .ref q]) (rest := []) ⟨hx, hb, hml, hown, ht⟩ (c_L_house hst q nv sw μ H.size (xs (i + (1 : Int32)).toNatClampNeg) (PW := fun k u => RW_house JI ν (xs (i + (1 : Int32)).toNatClampNeg) k u.2.1 u.1) (hGM μ ν nv (xs (i + (1 : Int32)).toNatClampNeg) hJI)) (vx_cwSW 3 ht (G_S q_1300 q_1301 q_45 q_1302) rfl rfl rfl vd_79 ⟨Nat.le_of_ble_eq_true rfl, Nat.le_of_ble_eq_true rfl⟩) ⟨LB.blind, hg.lb hI hw⟩ rfl rfl hl.1 rfl (lv_room (Nat.le_of_ble_eq_true rfl)) dL_law_1484 ⟨show cv + 1 ≤ 600128 by omega, show sv + 6 ≤ 7301098 by omega⟩) (fun r1 μ1 nv1 sw1 H locs hq1 hw => ?_)
  refine lv_istore (lv' := [(5, .int r1), (0, .ref b), (1, .ref (ad 0)), (2, .ref (bd 0)), (3, .ref q), (4, .int i)]) hx hb dL_law_1487 hl (by decide) rfl (fun ls hl => ?_)
  refine lv_aload_n hx hb dL_law_1489 rfl (lv_at hl 3 rfl) ?_
  refine lv_aload_n hx hb dL_law_1490 rfl (lv_at hl 1 rfl) ?_
  refine lv_iload hx hb dL_law_1491 (lv_at hl 5 rfl) ?_
  refine lv_iconst (v := (1 : Int32)) hx hb dL_law_1493 (by decide) ?_
  refine lv_iadd hx hb dL_law_1494 ?_
  refine va_sld hx hb hXs hbl hbA hw.2.2.1 (i := (i + (1 : Int32))) hv1 dL_law_1495 ?_
  refine M_calli hw (LZ_MA hw) (va_runV (own := "LeastreaderLaw") (As := [.int (xs (i + (1 : Int32)).toNatClampNeg)]) (rest := []) ⟨hx, hb, hml, hown, ht⟩ (c_X11_house ν H.size (xs (i + (1 : Int32)).toNatClampNeg) hq1) (cwV 1 ht (G_V q_1584 q_1585 q_1586 q_56 q_1587) rfl rfl rfl ⟨rfl, vd_80⟩ ⟨Nat.le_of_ble_eq_true rfl, Nat.le_of_ble_eq_true rfl⟩) ⟨MB.blind, M_recv hg.2.1 hw, MB.pre hg.2.1 hJ hw va_P0 ne0⟩ rfl rfl hl.1 rfl (lv_room (Nat.le_of_ble_eq_true rfl)) dL_law_1496 ⟨show cv + 1 + 0 ≤ 600128 by omega, show sv + 6 + 0 ≤ 7301098 by omega⟩) (fun r2 ν2 H locs hf2 hw => ?_)
  refine lv_istore (lv' := [(6, .int r2), (5, .int r1), (0, .ref b), (1, .ref (ad 0)), (2, .ref (bd 0)), (3, .ref q), (4, .int i)]) hx hb dL_law_1499 hl (by decide) rfl (fun ls hl => ?_)
  refine lv_goto (tgt := 1544) hx hb dL_law_1501 (by decide) ?_
  refine W.widen (show cv + 1 + 0 ≤ cv + 2000 by omega) (show sv + 6 + 0 ≤ sv + 112000 by omega) ?_
  exact hJ3 μ1 ν2 nv1 sw1 H locs ls hf2 hw (lv_sub hl [2, 3, 4, 5, 6] rfl)
set_option maxHeartbeats 4000000 in
set_option maxRecDepth 100000 in
theorem law_27 {p : Program} {l : Launch} {e : Env} {s : State} {m : MethodId} {b : Nat} {below : List Frame} {meth : Method} {c : Code} {L : Nat} {xs : Nat → Int32} {D : va_G} {ad bd : Nat → Nat} {cI cL cM cB : ClassId} {q : Nat} {Z : State → Prop} {JI : TMem → TMem → Prop} {i : Int32} {cv sv : Nat} (hRI : ∀ {μ ν : TMem}, JI μ ν → RI ν) (hGM : GM_knock JI) (C0 : LC p l s m b c L xs D ad bd cI cL cM cB) (hi : 0 ≤ i.toInt) (hiL : i.toInt + 6 ≤ L) (hcv : cv + 2000 ≤ 600128) (hsv : sv + 112000 ≤ 7301098) (hJ3 : LJ p l e s m b below meth c D ad bd cI cM q Z JI i (cv + 2000) (sv + 112000) 1544) : LJ p l e s m b below meth c D ad bd cI cM q Z JI i cv sv 1504 := by
  obtain ⟨hx, hb, hml, hown, ht, hg, hI, hJ, hXs, hbl, hst, hL⟩ := C0
  have hN : NW s := hg.2.2.2.2.1
  have hbA : ¬ SA s.heap.size b := Nat.not_le.mpr hbl
  intro μ ν nv sw H locs ls hJI hw hl
  obtain ⟨⟨hi1, hi2, hi3, hi4, hi5⟩, hv0, hv1, hv2, hv3, hv4, hv5⟩ := lx_ix hi hiL hL
  refine lv_aload_n hx hb dL_law_1504 rfl (lv_at hl 1 rfl) ?_
  refine LL_ti hw hI (va_runV (own := "LeastreaderLaw") (As := []) (rest := []) ⟨hx, hb, hml, hown, ht⟩ (c_X9_knock μ H.size (hGM μ ν hJI)) (cwV 0 ht (G_V q_306 q_307 q_308 q_46 q_309) rfl rfl rfl ⟨rfl, vd_81⟩ ⟨Nat.le_of_ble_eq_true rfl, Nat.le_of_ble_eq_true rfl⟩) ⟨TB.blind, LL_rv hg hw, hg.pT hI hw⟩ rfl rfl hl.1 rfl (lv_room (Nat.le_of_ble_eq_true rfl)) dL_law_1505 ⟨show cv + 0 ≤ 600128 by omega, show sv + 0 ≤ 7301098 by omega⟩) (fun r1 μ1 H locs hq1 hw => ?_)
  refine lv_pop hx hb dL_law_1508 rfl ?_
  refine lv_aload_n hx hb dL_law_1509 rfl (lv_at hl 2 rfl) ?_
  refine M_calli hw (LZ_MA hw) (va_runV (own := "LeastreaderLaw") (As := []) (rest := []) ⟨hx, hb, hml, hown, ht⟩ (c_X11_knock ν H.size  hq1) (cwV 0 ht (G_V q_1588 q_1589 q_1590 q_56 q_1591) rfl rfl rfl ⟨rfl, vd_82⟩ ⟨Nat.le_of_ble_eq_true rfl, Nat.le_of_ble_eq_true rfl⟩) ⟨MB.blind, M_recv hg.2.1 hw, MB.pre hg.2.1 hJ hw va_P0 ne0⟩ rfl rfl hl.1 rfl (lv_room (Nat.le_of_ble_eq_true rfl)) dL_law_1510 ⟨show cv + 0 + 0 ≤ 600128 by omega, show sv + 0 + 0 ≤ 7301098 by omega⟩) (fun r2 ν2 H locs hf2 hw => ?_)
  refine lv_pop hx hb dL_law_1513 rfl ?_
  refine lv_goto (tgt := 1544) hx hb dL_law_1514 (by decide) ?_
  refine W.widen (show cv + 0 + 0 ≤ cv + 2000 by omega) (show sv + 0 + 0 ≤ sv + 112000 by omega) ?_
  exact hJ3 μ1 ν2 nv sw H locs ls hf2 hw (lv_sub hl [0, 1, 2, 3, 4] rfl)
set_option maxHeartbeats 4000000 in
set_option maxRecDepth 100000 in
theorem law_28 {p : Program} {l : Launch} {e : Env} {s : State} {m : MethodId} {b : Nat} {below : List Frame} {meth : Method} {c : Code} {L : Nat} {xs : Nat → Int32} {D : va_G} {ad bd : Nat → Nat} {cI cL cM cB : ClassId} {q : Nat} {Z : State → Prop} {JI : TMem → TMem → Prop} {i : Int32} {cv sv : Nat} (hRI : ∀ {μ ν : TMem}, JI μ ν → RI ν) (hGM : GM_isSound JI) (C0 : LC p l s m b c L xs D ad bd cI cL cM cB) (hi : 0 ≤ i.toInt) (hiL : i.toInt + 6 ≤ L) (hcv : cv + 2000 ≤ 600128) (hsv : sv + 112000 ≤ 7301098) (hJ3 : LJ p l e s m b below meth c D ad bd cI cM q Z JI i (cv + 2000) (sv + 112000) 1544) : LJ p l e s m b below meth c D ad bd cI cM q Z JI i cv sv 1517 := by
  obtain ⟨hx, hb, hml, hown, ht, hg, hI, hJ, hXs, hbl, hst, hL⟩ := C0
  have hN : NW s := hg.2.2.2.2.1
  have hbA : ¬ SA s.heap.size b := Nat.not_le.mpr hbl
  intro μ ν nv sw H locs ls hJI hw hl
  obtain ⟨⟨hi1, hi2, hi3, hi4, hi5⟩, hv0, hv1, hv2, hv3, hv4, hv5⟩ := lx_ix hi hiL hL
  refine lv_aload_n hx hb dL_law_1517 rfl (lv_at hl 1 rfl) ?_
  refine LL_xi (X := fun _ _ => False) (fun _ _ h => h) hw hI (vx_runV (own := "LeastreaderLaw") (As := []) (rest := []) ⟨hx, hb, hml, hown, ht⟩ (c_X9_isSound hst μ H.size (hGM μ ν hJI)) (cwV 0 ht (G_V q_310 q_311 q_312 q_46 q_313) rfl rfl rfl ⟨rfl, vd_83⟩ ⟨Nat.le_of_ble_eq_true rfl, Nat.le_of_ble_eq_true rfl⟩) ⟨TBX.blind, LL_rv hg hw, hg.pX hI hw⟩ rfl rfl hl.1 rfl (lv_room (Nat.le_of_ble_eq_true rfl)) dL_law_1518 ⟨show cv + 1 ≤ 600128 by omega, show sv + 6 ≤ 7301098 by omega⟩) (fun r1 μ1 H locs hq1 hw => ?_)
  refine lv_pop hx hb dL_law_1521 rfl ?_
  refine lv_aload_n hx hb dL_law_1522 rfl (lv_at hl 2 rfl) ?_
  refine M_calli hw (LZ_MA hw) (va_runV (own := "LeastreaderLaw") (As := []) (rest := []) ⟨hx, hb, hml, hown, ht⟩ (c_X11_isSound ν H.size  hq1) (cwV 0 ht (G_V q_1592 q_1593 q_1594 q_56 q_1595) rfl rfl rfl ⟨rfl, vd_84⟩ ⟨Nat.le_of_ble_eq_true rfl, Nat.le_of_ble_eq_true rfl⟩) ⟨MB.blind, M_recv hg.2.1 hw, MB.pre hg.2.1 hJ hw va_P0 ne0⟩ rfl rfl hl.1 rfl (lv_room (Nat.le_of_ble_eq_true rfl)) dL_law_1523 ⟨show cv + 1 + 0 ≤ 600128 by omega, show sv + 6 + 0 ≤ 7301098 by omega⟩) (fun r2 ν2 H locs hf2 hw => ?_)
  refine lv_pop hx hb dL_law_1526 rfl ?_
  refine lv_goto (tgt := 1544) hx hb dL_law_1527 (by decide) ?_
  refine W.widen (show cv + 1 + 0 ≤ cv + 2000 by omega) (show sv + 6 + 0 ≤ sv + 112000 by omega) ?_
  exact hJ3 μ1 ν2 nv sw H locs ls hf2 hw (lv_sub hl [0, 1, 2, 3, 4] rfl)
set_option maxHeartbeats 4000000 in
set_option maxRecDepth 100000 in
theorem law_29 {p : Program} {l : Launch} {e : Env} {s : State} {m : MethodId} {b : Nat} {below : List Frame} {meth : Method} {c : Code} {L : Nat} {xs : Nat → Int32} {D : va_G} {ad bd : Nat → Nat} {cI cL cM cB : ClassId} {q : Nat} {Z : State → Prop} {JI : TMem → TMem → Prop} {i : Int32} {cv sv : Nat} (hRI : ∀ {μ ν : TMem}, JI μ ν → RI ν) (hGM : GM_digest JI) (C0 : LC p l s m b c L xs D ad bd cI cL cM cB) (hi : 0 ≤ i.toInt) (hiL : i.toInt + 6 ≤ L) (hcv : cv + 2000 ≤ 600128) (hsv : sv + 112000 ≤ 7301098) (hJ3 : LJ p l e s m b below meth c D ad bd cI cM q Z JI i (cv + 2000) (sv + 112000) 1544) : LJ p l e s m b below meth c D ad bd cI cM q Z JI i cv sv 1530 := by
  obtain ⟨hx, hb, hml, hown, ht, hg, hI, hJ, hXs, hbl, hst, hL⟩ := C0
  have hN : NW s := hg.2.2.2.2.1
  have hbA : ¬ SA s.heap.size b := Nat.not_le.mpr hbl
  intro μ ν nv sw H locs ls hJI hw hl
  obtain ⟨⟨hi1, hi2, hi3, hi4, hi5⟩, hv0, hv1, hv2, hv3, hv4, hv5⟩ := lx_ix hi hiL hL
  refine lv_aload_n hx hb dL_law_1530 rfl (lv_at hl 1 rfl) ?_
  refine LL_xl (X := fun _ _ => False) (fun _ _ h => h) hw hI (vx_runV (own := "LeastreaderLaw") (As := []) (rest := []) ⟨hx, hb, hml, hown, ht⟩ (c_X9_digest hst μ H.size (hGM μ ν hJI)) (cwV 0 ht (G_V q_550 q_551 q_552 q_46 q_553) rfl rfl rfl ⟨rfl, vd_85⟩ ⟨Nat.le_of_ble_eq_true rfl, Nat.le_of_ble_eq_true rfl⟩) ⟨TBX.blind, LL_rv hg hw, hg.pX hI hw⟩ rfl rfl hl.1 rfl (lv_room (Nat.le_of_ble_eq_true rfl)) dL_law_1531 ⟨show cv + 1 ≤ 600128 by omega, show sv + 6 ≤ 7301098 by omega⟩) (fun r1 μ1 H locs hq1 hw => ?_)
  refine lv_aload_n hx hb dL_law_1534 rfl (lv_at hl 2 rfl) ?_
  refine M_calll hw (LZ_MA hw) (va_runV (own := "LeastreaderLaw") (As := []) (rest := [.long r1]) ⟨hx, hb, hml, hown, ht⟩ (c_X11_digest ν H.size  hq1) (cwV 0 ht (G_V q_1596 q_1597 q_1598 q_56 q_1599) rfl rfl rfl ⟨rfl, vd_86⟩ ⟨Nat.le_of_ble_eq_true rfl, Nat.le_of_ble_eq_true rfl⟩) ⟨MB.blind, M_recv hg.2.1 hw, MB.pre hg.2.1 hJ hw va_P0 ne0⟩ rfl rfl hl.1 rfl (lv_room (Nat.le_of_ble_eq_true rfl)) dL_law_1535 ⟨show cv + 1 + 0 ≤ 600128 by omega, show sv + 6 + 0 ≤ 7301098 by omega⟩) (fun r2 ν2 H locs hf2 hw => ?_)
  refine W.lcmp hx hb dL_law_1538 ?_
  refine lv_if_eq (tgt := 1544) hx hb dL_law_1539 (by decide) (fun _ => ?_) (fun c9 => absurd (LG_cmp hf2.2) c9)
  refine W.widen (show cv + 1 + 0 ≤ cv + 2000 by omega) (show sv + 6 + 0 ≤ sv + 112000 by omega) ?_
  exact hJ3 μ1 ν2 nv sw H locs ls hf2.1 hw (lv_sub hl [0, 1, 2, 3, 4] rfl)
end
/-! part 9q.lawloop -/
section
section LLP
theorem and31 (x : Int32) : 0 ≤ (x &&& (31 : Int32)).toInt ∧ (x &&& (31 : Int32)).toInt ≤ 31 := by
  have h : (x &&& (31 : Int32)).toBitVec.toNat ≤ 31 := by
    rw [Int32.toBitVec_and, BitVec.toNat_and]
    exact Nat.and_le_right
  have e : (x &&& (31 : Int32)).toInt = ((x &&& (31 : Int32)).toBitVec.toNat : Int) := by
    rw [← Int32.toInt_toBitVec]
    exact BitVec.toInt_eq_toNat_of_lt (by omega)
  omega
set_option maxHeartbeats 4000000 in
set_option maxRecDepth 100000 in
theorem law_loop {p : Program} {l : Launch} {e : Env} {s : State} {m : MethodId} {b : Nat} {below : List Frame} {meth : Method} {c : Code} {L : Nat} {xs : Nat → Int32} {D : va_G} {ad bd : Nat → Nat} {cI cL cM cB : ClassId} {q : Nat} {Z : State → Prop} {JI : TMem → TMem → Prop} (hRI : ∀ {μ ν : TMem}, JI μ ν → RI ν) (hm0 : GM_begin JI) (hm1 : GM_arrow JI) (hm2 : GM_lead JI) (hm3 : GM_mark JI) (hm4 : GM_sow JI) (hm5 : GM_copy JI) (hm6 : GM_swap JI) (hm7 : GM_turn JI) (hm8 : GM_other JI) (hm9 : GM_grow JI) (hm10 : GM_drop JI) (hm11 : GM_make JI) (hm12 : GM_combine JI) (hm13 : GM_tell JI) (hm14 : GM_arrows JI) (hm15 : GM_takes JI) (hm16 : GM_after JI) (hm17 : GM_size JI) (hm18 : GM_text JI) (hm19 : GM_kind JI) (hm20 : GM_many JI) (hm21 : GM_word JI) (hm22 : GM_isAlike JI) (hm23 : GM_apart JI) (hm24 : GM_pairs JI) (hm25 : GM_together JI) (hm26 : GM_house JI) (hm27 : GM_knock JI) (hm28 : GM_isSound JI) (hm29 : GM_digest JI) (C0 : LC p l s m b c L xs D ad bd cI cL cM cB) (hE : ∀ (H : Heap) (ls : Array Slot), W p l e room_1 s m #[.ref b] below meth c H [] 600128 7301098 Z (F0 m 1551 ls [.int 1])) :
    ∀ (n t : Nat) (i : Int32), 65 - t < n → t ≤ 64 → i.toInt = 6 * (t : Int) → LJ p l e s m b below meth c D ad bd cI cM q Z JI i (100 + 2000 * t) (6000 + 112000 * t) 27 := by
  intro n
  induction n with
  | zero => intro t i hk; exact absurd hk (Nat.not_lt_zero _)
  | succ n ih =>
    intro t i hk ht64 hi μ ν nv sw H locs ls hJI hw hl
    obtain ⟨hx, hb, hml, hown, ht, hg, hI, hJ, hXs, hbl, hst, hL⟩ := id C0
    have hbA : ¬ SA s.heap.size b := Nat.not_le.mpr hbl
    have eL : (Int32.ofNat L).toInt = (L : Int) := ii_nI (by omega)
    refine lv_iload hx hb dL_law_27 (lv_at hl 4 rfl) ?_
    refine lv_aload_n hx hb dL_law_29 rfl (lv_at hl 0 rfl) ?_
    refine va_slen hx hb hXs hbl hbA hw.2.2.1 dL_law_30 ?_
    refine lv_bipush (v := (6 : Int32)) hx hb dL_law_31 (by decide) ?_
    refine lv_isub hx hb dL_law_33 ?_
    have e6 : (Int32.ofNat L - (6 : Int32)).toInt = (L : Int) - 6 := ii_s eL (show (6 : Int32).toInt = 6 from rfl) (by omega) (by omega)
    refine lv_icmp_gt (tgt := 1550) hx hb dL_law_34 (by decide) (fun c1 => ?_) (fun c1 => ?_)
    · refine lv_iconst (v := (1 : Int32)) hx hb dL_law_1550 (by decide) ?_
      refine W.widen (show 100 + 2000 * t ≤ 600128 by omega) (show 6000 + 112000 * t ≤ 7301098 by omega) ?_
      exact va_forget (fun x hx => hw.2.2.1.2.2 x hx) (hE H ls)
    have hiL : i.toInt + 6 ≤ L := by
      rw [l_lt, e6] at c1
      omega
    have hv0 : vp_in i L := vin (by omega)
    have ei : (i + (6 : Int32)).toInt = i.toInt + 6 := ii_a rfl (show (6 : Int32).toInt = 6 from rfl) (by omega) (by omega)
    have J3 : LJ p l e s m b below meth c D ad bd cI cM q Z JI i (100 + 2000 * t + 2000) (6000 + 112000 * t + 112000) 1544 := by
      intro μ ν nv sw H locs ls hJI hw hl
      have J := ih (t + 1) (i + (6 : Int32)) (by omega) (by omega) (by omega)
      rw [show 100 + 2000 * (t + 1) = 100 + 2000 * t + 2000 by omega, show 6000 + 112000 * (t + 1) = 6000 + 112000 * t + 112000 by omega] at J
      refine lv_iinc (v := (i + (6 : Int32))) (lv' := [(4, .int (i + (6 : Int32))), (0, .ref b), (1, .ref (ad 0)), (2, .ref (bd 0)), (3, .ref q)]) hx hb dL_law_1544 hl (k := 4) rfl rfl (by decide) rfl (fun ls hl => ?_)
      refine lv_goto (tgt := 27) hx hb dL_law_1547 (by decide) ?_
      exact J μ ν nv sw H locs ls hJI hw (lv_sub hl [1, 2, 3, 4, 0] rfl)
    have hcv : 100 + 2000 * t + 2000 ≤ 600128 := by omega
    have hsv : 6000 + 112000 * t + 112000 ≤ 7301098 := by omega
    refine lv_aload_n hx hb dL_law_37 rfl (lv_at hl 0 rfl) ?_
    refine lv_iload hx hb dL_law_38 (lv_at hl 4 rfl) ?_
    refine va_sld hx hb hXs hbl hbA hw.2.2.1 (i := i) hv0 dL_law_40 ?_
    refine lv_bipush (v := (31 : Int32)) hx hb dL_law_41 (by decide) ?_
    refine lv_iand hx hb dL_law_43 ?_
    obtain ⟨h0, h31⟩ := and31 (xs i.toNatClampNeg)
    generalize (xs i.toNatClampNeg) &&& (31 : Int32) = v at h0 h31 ⊢
    have hi0 : 0 ≤ i.toInt := by omega
    by_cases hv : 29 < v.toInt
    · refine lv_tableOut (tgt := 1544) hx hb dL_law_44 (Or.inr hv) (by decide) ?_
      exact W.widen (show 100 + 2000 * t ≤ 100 + 2000 * t + 2000 by omega) (show 6000 + 112000 * t ≤ 6000 + 112000 * t + 112000 by omega) (J3 μ ν nv sw H locs ls hJI hw hl)
    rcases (show v.toInt = 0 ∨ v.toInt = 1 ∨ v.toInt = 2 ∨ v.toInt = 3 ∨ v.toInt = 4 ∨ v.toInt = 5 ∨ v.toInt = 6 ∨ v.toInt = 7 ∨ v.toInt = 8 ∨ v.toInt = 9 ∨ v.toInt = 10 ∨ v.toInt = 11 ∨ v.toInt = 12 ∨ v.toInt = 13 ∨ v.toInt = 14 ∨ v.toInt = 15 ∨ v.toInt = 16 ∨ v.toInt = 17 ∨ v.toInt = 18 ∨ v.toInt = 19 ∨ v.toInt = 20 ∨ v.toInt = 21 ∨ v.toInt = 22 ∨ v.toInt = 23 ∨ v.toInt = 24 ∨ v.toInt = 25 ∨ v.toInt = 26 ∨ v.toInt = 27 ∨ v.toInt = 28 ∨ v.toInt = 29 by omega) with hk9 | hk9 | hk9 | hk9 | hk9 | hk9 | hk9 | hk9 | hk9 | hk9 | hk9 | hk9 | hk9 | hk9 | hk9 | hk9 | hk9 | hk9 | hk9 | hk9 | hk9 | hk9 | hk9 | hk9 | hk9 | hk9 | hk9 | hk9 | hk9 | hk9
    · exact lv_tableIn (tgt := 180) hx hb dL_law_44 (by rw [hk9]; decide) (by rw [hk9]; decide) (by rw [hk9]; rfl) (by decide) (law_0 hRI hm0 C0 hi0 hiL hcv hsv J3 μ ν nv sw H locs ls hJI hw hl)
    · exact lv_tableIn (tgt := 220) hx hb dL_law_44 (by rw [hk9]; decide) (by rw [hk9]; decide) (by rw [hk9]; rfl) (by decide) (law_1 hRI hm1 C0 hi0 hiL hcv hsv J3 μ ν nv sw H locs ls hJI hw hl)
    · exact lv_tableIn (tgt := 312) hx hb dL_law_44 (by rw [hk9]; decide) (by rw [hk9]; decide) (by rw [hk9]; rfl) (by decide) (law_2 hRI hm2 C0 hi0 hiL hcv hsv J3 μ ν nv sw H locs ls hJI hw hl)
    · exact lv_tableIn (tgt := 376) hx hb dL_law_44 (by rw [hk9]; decide) (by rw [hk9]; decide) (by rw [hk9]; rfl) (by decide) (law_3 hRI hm3 C0 hi0 hiL hcv hsv J3 μ ν nv sw H locs ls hJI hw hl)
    · exact lv_tableIn (tgt := 472) hx hb dL_law_44 (by rw [hk9]; decide) (by rw [hk9]; decide) (by rw [hk9]; rfl) (by decide) (law_4 hRI hm4 C0 hi0 hiL hcv hsv J3 μ ν nv sw H locs ls hJI hw hl)
    · exact lv_tableIn (tgt := 536) hx hb dL_law_44 (by rw [hk9]; decide) (by rw [hk9]; decide) (by rw [hk9]; rfl) (by decide) (law_5 hRI hm5 C0 hi0 hiL hcv hsv J3 μ ν nv sw H locs ls hJI hw hl)
    · exact lv_tableIn (tgt := 576) hx hb dL_law_44 (by rw [hk9]; decide) (by rw [hk9]; decide) (by rw [hk9]; rfl) (by decide) (law_6 hRI hm6 C0 hi0 hiL hcv hsv J3 μ ν nv sw H locs ls hJI hw hl)
    · exact lv_tableIn (tgt := 616) hx hb dL_law_44 (by rw [hk9]; decide) (by rw [hk9]; decide) (by rw [hk9]; rfl) (by decide) (law_7 hRI hm7 C0 hi0 hiL hcv hsv J3 μ ν nv sw H locs ls hJI hw hl)
    · exact lv_tableIn (tgt := 644) hx hb dL_law_44 (by rw [hk9]; decide) (by rw [hk9]; decide) (by rw [hk9]; rfl) (by decide) (law_8 hRI hm8 C0 hi0 hiL hcv hsv J3 μ ν nv sw H locs ls hJI hw hl)
    · exact lv_tableIn (tgt := 672) hx hb dL_law_44 (by rw [hk9]; decide) (by rw [hk9]; decide) (by rw [hk9]; rfl) (by decide) (law_9 hRI hm9 C0 hi0 hiL hcv hsv J3 μ ν nv sw H locs ls hJI hw hl)
    · exact lv_tableIn (tgt := 700) hx hb dL_law_44 (by rw [hk9]; decide) (by rw [hk9]; decide) (by rw [hk9]; rfl) (by decide) (law_10 hRI hm10 C0 hi0 hiL hcv hsv J3 μ ν nv sw H locs ls hJI hw hl)
    · exact lv_tableIn (tgt := 740) hx hb dL_law_44 (by rw [hk9]; decide) (by rw [hk9]; decide) (by rw [hk9]; rfl) (by decide) (law_11 hRI hm11 C0 hi0 hiL hcv hsv J3 μ ν nv sw H locs ls hJI hw hl)
    · exact lv_tableIn (tgt := 808) hx hb dL_law_44 (by rw [hk9]; decide) (by rw [hk9]; decide) (by rw [hk9]; rfl) (by decide) (law_12 hRI hm12 C0 hi0 hiL hcv hsv J3 μ ν nv sw H locs ls hJI hw hl)
    · exact lv_tableIn (tgt := 872) hx hb dL_law_44 (by rw [hk9]; decide) (by rw [hk9]; decide) (by rw [hk9]; rfl) (by decide) (law_13 hRI hm13 C0 hi0 hiL hcv hsv J3 μ ν nv sw H locs ls hJI hw hl)
    · exact lv_tableIn (tgt := 912) hx hb dL_law_44 (by rw [hk9]; decide) (by rw [hk9]; decide) (by rw [hk9]; rfl) (by decide) (law_14 hRI hm14 C0 hi0 hiL hcv hsv J3 μ ν nv sw H locs ls hJI hw hl)
    · exact lv_tableIn (tgt := 964) hx hb dL_law_44 (by rw [hk9]; decide) (by rw [hk9]; decide) (by rw [hk9]; rfl) (by decide) (law_15 hRI hm15 C0 hi0 hiL hcv hsv J3 μ ν nv sw H locs ls hJI hw hl)
    · exact lv_tableIn (tgt := 1016) hx hb dL_law_44 (by rw [hk9]; decide) (by rw [hk9]; decide) (by rw [hk9]; rfl) (by decide) (law_16 hRI hm16 C0 hi0 hiL hcv hsv J3 μ ν nv sw H locs ls hJI hw hl)
    · exact lv_tableIn (tgt := 1080) hx hb dL_law_44 (by rw [hk9]; decide) (by rw [hk9]; decide) (by rw [hk9]; rfl) (by decide) (law_17 hRI hm17 C0 hi0 hiL hcv hsv J3 μ ν nv sw H locs ls hJI hw hl)
    · exact lv_tableIn (tgt := 1120) hx hb dL_law_44 (by rw [hk9]; decide) (by rw [hk9]; decide) (by rw [hk9]; rfl) (by decide) (law_18 hRI hm18 C0 hi0 hiL hcv hsv J3 μ ν nv sw H locs ls hJI hw hl)
    · exact lv_tableIn (tgt := 1160) hx hb dL_law_44 (by rw [hk9]; decide) (by rw [hk9]; decide) (by rw [hk9]; rfl) (by decide) (law_19 hRI hm19 C0 hi0 hiL hcv hsv J3 μ ν nv sw H locs ls hJI hw hl)
    · exact lv_tableIn (tgt := 1188) hx hb dL_law_44 (by rw [hk9]; decide) (by rw [hk9]; decide) (by rw [hk9]; rfl) (by decide) (law_20 hRI hm20 C0 hi0 hiL hcv hsv J3 μ ν nv sw H locs ls hJI hw hl)
    · exact lv_tableIn (tgt := 1240) hx hb dL_law_44 (by rw [hk9]; decide) (by rw [hk9]; decide) (by rw [hk9]; rfl) (by decide) (law_21 hRI hm21 C0 hi0 hiL hcv hsv J3 μ ν nv sw H locs ls hJI hw hl)
    · exact lv_tableIn (tgt := 1280) hx hb dL_law_44 (by rw [hk9]; decide) (by rw [hk9]; decide) (by rw [hk9]; rfl) (by decide) (law_22 hRI hm22 C0 hi0 hiL hcv hsv J3 μ ν nv sw H locs ls hJI hw hl)
    · exact lv_tableIn (tgt := 1332) hx hb dL_law_44 (by rw [hk9]; decide) (by rw [hk9]; decide) (by rw [hk9]; rfl) (by decide) (law_23 hRI hm23 C0 hi0 hiL hcv hsv J3 μ ν nv sw H locs ls hJI hw hl)
    · exact lv_tableIn (tgt := 1372) hx hb dL_law_44 (by rw [hk9]; decide) (by rw [hk9]; decide) (by rw [hk9]; rfl) (by decide) (law_24 hRI hm24 C0 hi0 hiL hcv hsv J3 μ ν nv sw H locs ls hJI hw hl)
    · exact lv_tableIn (tgt := 1412) hx hb dL_law_44 (by rw [hk9]; decide) (by rw [hk9]; decide) (by rw [hk9]; rfl) (by decide) (law_25 hRI hm25 C0 hi0 hiL hcv hsv J3 μ ν nv sw H locs ls hJI hw hl)
    · exact lv_tableIn (tgt := 1476) hx hb dL_law_44 (by rw [hk9]; decide) (by rw [hk9]; decide) (by rw [hk9]; rfl) (by decide) (law_26 hRI hm26 C0 hi0 hiL hcv hsv J3 μ ν nv sw H locs ls hJI hw hl)
    · exact lv_tableIn (tgt := 1504) hx hb dL_law_44 (by rw [hk9]; decide) (by rw [hk9]; decide) (by rw [hk9]; rfl) (by decide) (law_27 hRI hm27 C0 hi0 hiL hcv hsv J3 μ ν nv sw H locs ls hJI hw hl)
    · exact lv_tableIn (tgt := 1517) hx hb dL_law_44 (by rw [hk9]; decide) (by rw [hk9]; decide) (by rw [hk9]; rfl) (by decide) (law_28 hRI hm28 C0 hi0 hiL hcv hsv J3 μ ν nv sw H locs ls hJI hw hl)
    · exact lv_tableIn (tgt := 1530) hx hb dL_law_44 (by rw [hk9]; decide) (by rw [hk9]; decide) (by rw [hk9]; rfl) (by decide) (law_29 hRI hm29 C0 hi0 hiL hcv hsv J3 μ ν nv sw H locs ls hJI hw hl)
end LLP
end
