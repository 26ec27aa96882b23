theorem zm_257 : z_mok (z_mi 257) (z_ml 257) = true := by decide +kernel
theorem zk_257 : zc_257.all (fun q => z_opok z_mi z_NM RX8 false (some .int) prog_10_method_85_code q.1 q.2) = true := by decide +kernel
theorem zm_258 : z_mok (z_mi 258) (z_ml 258) = true := by decide +kernel
theorem zk_258 : zc_258.all (fun q => z_opok z_mi z_NM RX8 false (some .boolean) prog_10_method_86_code q.1 q.2) = true := by decide +kernel
theorem zm_259 : z_mok (z_mi 259) (z_ml 259) = true := by decide +kernel
theorem zk_259 : zc_259.all (fun q => z_opok z_mi z_NM RX8 false (some .int) prog_10_method_87_code q.1 q.2) = true := by decide +kernel
theorem zm_260 : z_mok (z_mi 260) (z_ml 260) = true := by decide +kernel
theorem zk_260 : zc_260.all (fun q => z_opok z_mi z_NM RX8 false (some .int) prog_10_method_88_code q.1 q.2) = true := by decide +kernel
theorem zm_261 : z_mok (z_mi 261) (z_ml 261) = true := by decide +kernel
theorem zk_261 : zc_261.all (fun q => z_opok z_mi z_NM RX8 false (some .int) prog_10_method_89_code q.1 q.2) = true := by decide +kernel
theorem zm_262 : z_mok (z_mi 262) (z_ml 262) = true := by decide +kernel
theorem zk_262 : zc_262.all (fun q => z_opok z_mi z_NM RX8 false (some .int) prog_10_method_90_code q.1 q.2) = true := by decide +kernel
theorem zm_263 : z_mok (z_mi 263) (z_ml 263) = true := by decide +kernel
theorem zk_263 : zc_263.all (fun q => z_opok z_mi z_NM RX8 false (some .int) prog_10_method_91_code q.1 q.2) = true := by decide +kernel
theorem zm_264 : z_mok (z_mi 264) (z_ml 264) = true := by decide +kernel
theorem zk_264 : zc_264.all (fun q => z_opok z_mi z_NM RX8 false (some .int) prog_10_method_92_code q.1 q.2) = true := by decide +kernel
theorem zm_265 : z_mok (z_mi 265) (z_ml 265) = true := by decide +kernel
theorem zk_265 : zc_265.all (fun q => z_opok z_mi z_NM RX8 false (some .int) prog_10_method_93_code q.1 q.2) = true := by decide +kernel
theorem zm_266 : z_mok (z_mi 266) (z_ml 266) = true := by decide +kernel
theorem zk_266 : zc_266.all (fun q => z_opok z_mi z_NM RX8 false (some .int) prog_10_method_94_code q.1 q.2) = true := by decide +kernel
theorem zm_267 : z_mok (z_mi 267) (z_ml 267) = true := by decide +kernel
theorem zk_267 : zc_267.all (fun q => z_opok z_mi z_NM RX8 false (some .int) prog_10_method_95_code q.1 q.2) = true := by decide +kernel
theorem zm_268 : z_mok (z_mi 268) (z_ml 268) = true := by decide +kernel
theorem zk_268 : zc_268.all (fun q => z_opok z_mi z_NM RX8 false (some .int) prog_10_method_96_code q.1 q.2) = true := by decide +kernel
theorem zm_269 : z_mok (z_mi 269) (z_ml 269) = true := by decide +kernel
theorem zk_269 : zc_269.all (fun q => z_opok z_mi z_NM RX8 false (some .int) prog_10_method_97_code q.1 q.2) = true := by decide +kernel
theorem zm_270 : z_mok (z_mi 270) (z_ml 270) = true := by decide +kernel
theorem zk_270 : zc_270.all (fun q => z_opok z_mi z_NM RX8 false (some .int) prog_10_method_98_code q.1 q.2) = true := by decide +kernel
theorem zm_271 : z_mok (z_mi 271) (z_ml 271) = true := by decide +kernel
theorem zk_271 : zc_271.all (fun q => z_opok z_mi z_NM RX8 false (some .boolean) prog_10_method_99_code q.1 q.2) = true := by decide +kernel
theorem zm_272 : z_mok (z_mi 272) (z_ml 272) = true := by decide +kernel
theorem zk_272 : zc_272.all (fun q => z_opok z_mi z_NM RX8 false (some .int) prog_10_method_100_code q.1 q.2) = true := by decide +kernel
theorem zm_273 : z_mok (z_mi 273) (z_ml 273) = true := by decide +kernel
theorem zk_273 : zc_273.all (fun q => z_opok z_mi z_NM RX8 false (some .int) prog_10_method_101_code q.1 q.2) = true := by decide +kernel
theorem zm_274 : z_mok (z_mi 274) (z_ml 274) = true := by decide +kernel
theorem zk_274 : zc_274.all (fun q => z_opok z_mi z_NM RX8 false (some .int) prog_10_method_102_code q.1 q.2) = true := by decide +kernel
theorem zm_275 : z_mok (z_mi 275) (z_ml 275) = true := by decide +kernel
theorem zk_275 : zc_275.all (fun q => z_opok z_mi z_NM RX8 false (some .int) prog_10_method_103_code q.1 q.2) = true := by decide +kernel
theorem zm_276 : z_mok (z_mi 276) (z_ml 276) = true := by decide +kernel
theorem zk_276 : zc_276.all (fun q => z_opok z_mi z_NM RX8 false (some .int) prog_10_method_104_code q.1 q.2) = true := by decide +kernel
theorem zm_277 : z_mok (z_mi 277) (z_ml 277) = true := by decide +kernel
theorem zk_277 : zc_277.all (fun q => z_opok z_mi z_NM RX8 false (some .int) prog_10_method_105_code q.1 q.2) = true := by decide +kernel
theorem zm_278 : z_mok (z_mi 278) (z_ml 278) = true := by decide +kernel
theorem zk_278 : zc_278.all (fun q => z_opok z_mi z_NM RX8 false (some .int) prog_10_method_106_code q.1 q.2) = true := by decide +kernel
theorem zm_279 : z_mok (z_mi 279) (z_ml 279) = true := by decide +kernel
theorem zk_279 : zc_279.all (fun q => z_opok z_mi z_NM RX8 false (some .int) prog_10_method_107_code q.1 q.2) = true := by decide +kernel
theorem zm_280 : z_mok (z_mi 280) (z_ml 280) = true := by decide +kernel
theorem zk_280 : zc_280.all (fun q => z_opok z_mi z_NM RX8 false (some .boolean) prog_10_method_108_code q.1 q.2) = true := by decide +kernel
theorem zm_281 : z_mok (z_mi 281) (z_ml 281) = true := by decide +kernel
theorem zk_281 : zc_281.all (fun q => z_opok z_mi z_NM RX8 false (some .int) prog_10_method_109_code q.1 q.2) = true := by decide +kernel
theorem zm_282 : z_mok (z_mi 282) (z_ml 282) = true := by decide +kernel
theorem zk_282 : zc_282.all (fun q => z_opok z_mi z_NM RX8 false (some .int) prog_10_method_110_code q.1 q.2) = true := by decide +kernel
theorem zm_283 : z_mok (z_mi 283) (z_ml 283) = true := by decide +kernel
theorem zk_283 : zc_283.all (fun q => z_opok z_mi z_NM RX8 false (some .int) prog_10_method_111_code q.1 q.2) = true := by decide +kernel
theorem zm_284 : z_mok (z_mi 284) (z_ml 284) = true := by decide +kernel
theorem zk_284 : zc_284.all (fun q => z_opok z_mi z_NM RX8 false (some .int) prog_10_method_112_code q.1 q.2) = true := by decide +kernel
theorem zm_285 : z_mok (z_mi 285) (z_ml 285) = true := by decide +kernel
theorem zk_285 : zc_285.all (fun q => z_opok z_mi z_NM RX8 false (some .boolean) prog_10_method_113_code q.1 q.2) = true := by decide +kernel
theorem zm_286 : z_mok (z_mi 286) (z_ml 286) = true := by decide +kernel
theorem zk_286 : zc_286.all (fun q => z_opok z_mi z_NM RX8 false (some .boolean) prog_10_method_114_code q.1 q.2) = true := by decide +kernel
theorem zm_287 : z_mok (z_mi 287) (z_ml 287) = true := by decide +kernel
theorem zk_287 : zc_287.all (fun q => z_opok z_mi z_NM RX8 false (some .int) prog_10_method_115_code q.1 q.2) = true := by decide +kernel
theorem zm_288 : z_mok (z_mi 288) (z_ml 288) = true := by decide +kernel
theorem zk_288 : zc_288.all (fun q => z_opok z_mi z_NM RX8 false (some .int) prog_10_method_116_code q.1 q.2) = true := by decide +kernel
theorem zm_289 : z_mok (z_mi 289) (z_ml 289) = true := by decide +kernel
theorem zk_289 : zc_289.all (fun q => z_opok z_mi z_NM RX8 false (some .int) prog_10_method_117_code q.1 q.2) = true := by decide +kernel
theorem zm_290 : z_mok (z_mi 290) (z_ml 290) = true := by decide +kernel
theorem zk_290 : zc_290.all (fun q => z_opok z_mi z_NM RX8 false (some .boolean) prog_10_method_118_code q.1 q.2) = true := by decide +kernel
theorem zm_291 : z_mok (z_mi 291) (z_ml 291) = true := by decide +kernel
theorem zk_291 : zc_291.all (fun q => z_opok z_mi z_NM RX8 false (some .int) prog_10_method_119_code q.1 q.2) = true := by decide +kernel
theorem zm_292 : z_mok (z_mi 292) (z_ml 292) = true := by decide +kernel
theorem zk_292 : zc_292.all (fun q => z_opok z_mi z_NM RX8 false (some .int) prog_10_method_120_code q.1 q.2) = true := by decide +kernel
theorem zm_293 : z_mok (z_mi 293) (z_ml 293) = true := by decide +kernel
theorem zk_293 : zc_293.all (fun q => z_opok z_mi z_NM RX8 false (some .int) prog_10_method_121_code q.1 q.2) = true := by decide +kernel
theorem zm_294 : z_mok (z_mi 294) (z_ml 294) = true := by decide +kernel
theorem zk_294 : zc_294.all (fun q => z_opok z_mi z_NM RX8 false (some .int) prog_10_method_122_code q.1 q.2) = true := by decide +kernel
theorem zm_295 : z_mok (z_mi 295) (z_ml 295) = true := by decide +kernel
theorem zk_295 : zc_295.all (fun q => z_opok z_mi z_NM RX8 false (some .int) prog_10_method_123_code q.1 q.2) = true := by decide +kernel
theorem zm_296 : z_mok (z_mi 296) (z_ml 296) = true := by decide +kernel
theorem zk_296 : zc_296.all (fun q => z_opok z_mi z_NM RX8 false (some .boolean) prog_10_method_124_code q.1 q.2) = true := by decide +kernel
theorem zm_297 : z_mok (z_mi 297) (z_ml 297) = true := by decide +kernel
theorem zk_297 : zc_297.all (fun q => z_opok z_mi z_NM RX8 false (some .int) prog_10_method_125_code q.1 q.2) = true := by decide +kernel
theorem zm_298 : z_mok (z_mi 298) (z_ml 298) = true := by decide +kernel
theorem zk_298 : zc_298.all (fun q => z_opok z_mi z_NM RX8 false (some .int) prog_10_method_126_code q.1 q.2) = true := by decide +kernel
theorem zm_299 : z_mok (z_mi 299) (z_ml 299) = true := by decide +kernel
theorem zk_299 : zc_299.all (fun q => z_opok z_mi z_NM RX8 false (some .boolean) prog_10_method_127_code q.1 q.2) = true := by decide +kernel
theorem zm_300 : z_mok (z_mi 300) (z_ml 300) = true := by decide +kernel
theorem zk_300 : zc_300.all (fun q => z_opok z_mi z_NM RX8 false (some .int) prog_10_method_128_code q.1 q.2) = true := by decide +kernel
theorem zm_301 : z_mok (z_mi 301) (z_ml 301) = true := by decide +kernel
theorem zk_301 : zc_301.all (fun q => z_opok z_mi z_NM RX8 false (some .int) prog_10_method_129_code q.1 q.2) = true := by decide +kernel
theorem zm_302 : z_mok (z_mi 302) (z_ml 302) = true := by decide +kernel
theorem zk_302 : zc_302.all (fun q => z_opok z_mi z_NM RX8 false (some .long) prog_10_method_130_code q.1 q.2) = true := by decide +kernel
theorem zm_303 : z_mok (z_mi 303) (z_ml 303) = true := by decide +kernel
theorem zk_303 : zc_303.all (fun q => z_opok z_mi z_NM RX8 false (some .long) prog_10_method_131_code q.1 q.2) = true := by decide +kernel
theorem zm_304 : z_mok (z_mi 304) (z_ml 304) = true := by decide +kernel
theorem zk_304 : zc_304.all (fun q => z_opok z_mi z_NM RX8 false (some .long) prog_10_method_132_code q.1 q.2) = true := by decide +kernel
theorem zm_305 : z_mok (z_mi 305) (z_ml 305) = true := by decide +kernel
theorem zk_305 : zc_305.all (fun q => z_opok z_mi z_NM RX8 false (some .boolean) prog_10_method_133_code q.1 q.2) = true := by decide +kernel
theorem zm_306 : z_mok (z_mi 306) (z_ml 306) = true := by decide +kernel
theorem zk_306 : zc_306.all (fun q => z_opok z_mi z_NM RX8 false (some .long) prog_10_method_134_code q.1 q.2) = true := by decide +kernel
theorem zm_307 : z_mok (z_mi 307) (z_ml 307) = true := by decide +kernel
theorem zk_307 : zc_307.all (fun q => z_opok z_mi z_NM RX8 false (some .int) prog_10_method_135_code q.1 q.2) = true := by decide +kernel
theorem zm_308 : z_mok (z_mi 308) (z_ml 308) = true := by decide +kernel
theorem zk_308 : zc_308.all (fun q => z_opok z_mi z_NM RX8 false (some .int) prog_10_method_136_code q.1 q.2) = true := by decide +kernel
theorem zm_309 : z_mok (z_mi 309) (z_ml 309) = true := by decide +kernel
theorem zk_309 : zc_309.all (fun q => z_opok z_mi z_NM RX8 false (some .int) prog_10_method_137_code q.1 q.2) = true := by decide +kernel
theorem zm_310 : z_mok (z_mi 310) (z_ml 310) = true := by decide +kernel
theorem zk_310 : zc_310.all (fun q => z_opok z_mi z_NM RX8 false (some .int) prog_10_method_138_code q.1 q.2) = true := by decide +kernel
