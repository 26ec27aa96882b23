theorem zm_214 : z_mok (z_mi 214) (z_ml 214) = true := by decide +kernel
theorem zk_214 : zc_214.all (fun q => z_opok z_mi z_NM RX8 false (none) prog_10_method_42_code q.1 q.2) = true := by decide +kernel
theorem zm_215 : z_mok (z_mi 215) (z_ml 215) = true := by decide +kernel
theorem zk_215 : zc_215.all (fun q => z_opok z_mi z_NM RX8 false (none) prog_10_method_43_code q.1 q.2) = true := by decide +kernel
theorem zm_216 : z_mok (z_mi 216) (z_ml 216) = true := by decide +kernel
theorem zk_216 : zc_216.all (fun q => z_opok z_mi z_NM RX8 false (none) prog_10_method_44_code q.1 q.2) = true := by decide +kernel
theorem zm_217 : z_mok (z_mi 217) (z_ml 217) = true := by decide +kernel
theorem zk_217 : zc_217.all (fun q => z_opok z_mi z_NM RX8 false (some .int) prog_10_method_45_code q.1 q.2) = true := by decide +kernel
theorem zm_218 : z_mok (z_mi 218) (z_ml 218) = true := by decide +kernel
theorem zk_218 : zc_218.all (fun q => z_opok z_mi z_NM RX8 false (none) prog_10_method_46_code q.1 q.2) = true := by decide +kernel
theorem zm_219 : z_mok (z_mi 219) (z_ml 219) = true := by decide +kernel
theorem zk_219 : zc_219.all (fun q => z_opok z_mi z_NM RX8 false (none) prog_10_method_47_code q.1 q.2) = true := by decide +kernel
theorem zm_220 : z_mok (z_mi 220) (z_ml 220) = true := by decide +kernel
theorem zk_220 : zc_220.all (fun q => z_opok z_mi z_NM RX8 false (some .int) prog_10_method_48_code q.1 q.2) = true := by decide +kernel
theorem zm_221 : z_mok (z_mi 221) (z_ml 221) = true := by decide +kernel
theorem zk_221 : zc_221.all (fun q => z_opok z_mi z_NM RX8 false (some .int) prog_10_method_49_code q.1 q.2) = true := by decide +kernel
theorem zm_222 : z_mok (z_mi 222) (z_ml 222) = true := by decide +kernel
theorem zk_222 : zc_222.all (fun q => z_opok z_mi z_NM RX8 false (none) prog_10_method_50_code q.1 q.2) = true := by decide +kernel
theorem zm_223 : z_mok (z_mi 223) (z_ml 223) = true := by decide +kernel
theorem zk_223 : zc_223.all (fun q => z_opok z_mi z_NM RX8 false (some .int) prog_10_method_51_code q.1 q.2) = true := by decide +kernel
theorem zm_224 : z_mok (z_mi 224) (z_ml 224) = true := by decide +kernel
theorem zk_224 : zc_224.all (fun q => z_opok z_mi z_NM RX8 false (none) prog_10_method_52_code q.1 q.2) = true := by decide +kernel
theorem zm_225 : z_mok (z_mi 225) (z_ml 225) = true := by decide +kernel
theorem zk_225 : zc_225.all (fun q => z_opok z_mi z_NM RX8 false (none) prog_10_method_53_code q.1 q.2) = true := by decide +kernel
theorem zm_226 : z_mok (z_mi 226) (z_ml 226) = true := by decide +kernel
theorem zk_226 : zc_226.all (fun q => z_opok z_mi z_NM RX8 false (some .boolean) prog_10_method_54_code q.1 q.2) = true := by decide +kernel
theorem zm_227 : z_mok (z_mi 227) (z_ml 227) = true := by decide +kernel
theorem zk_227 : zc_227.all (fun q => z_opok z_mi z_NM RX8 false (some .int) prog_10_method_55_code q.1 q.2) = true := by decide +kernel
theorem zm_228 : z_mok (z_mi 228) (z_ml 228) = true := by decide +kernel
theorem zk_228 : zc_228.all (fun q => z_opok z_mi z_NM RX8 false (some .boolean) prog_10_method_56_code q.1 q.2) = true := by decide +kernel
theorem zm_229 : z_mok (z_mi 229) (z_ml 229) = true := by decide +kernel
theorem zk_229 : zc_229.all (fun q => z_opok z_mi z_NM RX8 false (some .boolean) prog_10_method_57_code q.1 q.2) = true := by decide +kernel
theorem zm_230 : z_mok (z_mi 230) (z_ml 230) = true := by decide +kernel
theorem zk_230 : zc_230.all (fun q => z_opok z_mi z_NM RX8 false (none) prog_10_method_58_code q.1 q.2) = true := by decide +kernel
theorem zm_231 : z_mok (z_mi 231) (z_ml 231) = true := by decide +kernel
theorem zk_231 : zc_231.all (fun q => z_opok z_mi z_NM RX8 false (none) prog_10_method_59_code q.1 q.2) = true := by decide +kernel
theorem zm_232 : z_mok (z_mi 232) (z_ml 232) = true := by decide +kernel
theorem zk_232 : zc_232.all (fun q => z_opok z_mi z_NM RX8 false (none) prog_10_method_60_code q.1 q.2) = true := by decide +kernel
theorem zm_233 : z_mok (z_mi 233) (z_ml 233) = true := by decide +kernel
theorem zk_233 : zc_233.all (fun q => z_opok z_mi z_NM RX8 false (none) prog_10_method_61_code q.1 q.2) = true := by decide +kernel
theorem zm_234 : z_mok (z_mi 234) (z_ml 234) = true := by decide +kernel
theorem zk_234 : zc_234.all (fun q => z_opok z_mi z_NM RX8 false (none) prog_10_method_62_code q.1 q.2) = true := by decide +kernel
theorem zm_235 : z_mok (z_mi 235) (z_ml 235) = true := by decide +kernel
theorem zk_235 : zc_235.all (fun q => z_opok z_mi z_NM RX8 false (none) prog_10_method_63_code q.1 q.2) = true := by decide +kernel
theorem zm_236 : z_mok (z_mi 236) (z_ml 236) = true := by decide +kernel
theorem zk_236 : zc_236.all (fun q => z_opok z_mi z_NM RX8 false (none) prog_10_method_64_code q.1 q.2) = true := by decide +kernel
theorem zm_237 : z_mok (z_mi 237) (z_ml 237) = true := by decide +kernel
theorem zk_237 : zc_237.all (fun q => z_opok z_mi z_NM RX8 false (none) prog_10_method_65_code q.1 q.2) = true := by decide +kernel
theorem zm_238 : z_mok (z_mi 238) (z_ml 238) = true := by decide +kernel
theorem zk_238 : zc_238.all (fun q => z_opok z_mi z_NM RX8 false (none) prog_10_method_66_code q.1 q.2) = true := by decide +kernel
theorem zm_239 : z_mok (z_mi 239) (z_ml 239) = true := by decide +kernel
theorem zk_239 : zc_239.all (fun q => z_opok z_mi z_NM RX8 false (some .int) prog_10_method_67_code q.1 q.2) = true := by decide +kernel
theorem zm_240 : z_mok (z_mi 240) (z_ml 240) = true := by decide +kernel
theorem zk_240 : zc_240.all (fun q => z_opok z_mi z_NM RX8 false (some .int) prog_10_method_68_code q.1 q.2) = true := by decide +kernel
theorem zm_241 : z_mok (z_mi 241) (z_ml 241) = true := by decide +kernel
theorem zk_241 : zc_241.all (fun q => z_opok z_mi z_NM RX8 false (some .boolean) prog_10_method_69_code q.1 q.2) = true := by decide +kernel
theorem zm_242 : z_mok (z_mi 242) (z_ml 242) = true := by decide +kernel
theorem zk_242 : zc_242.all (fun q => z_opok z_mi z_NM RX8 false (some .boolean) prog_10_method_70_code q.1 q.2) = true := by decide +kernel
theorem zm_243 : z_mok (z_mi 243) (z_ml 243) = true := by decide +kernel
theorem zk_243 : zc_243.all (fun q => z_opok z_mi z_NM RX8 false (some .boolean) prog_10_method_71_code q.1 q.2) = true := by decide +kernel
theorem zm_244 : z_mok (z_mi 244) (z_ml 244) = true := by decide +kernel
theorem zk_244 : zc_244.all (fun q => z_opok z_mi z_NM RX8 false (some .boolean) prog_10_method_72_code q.1 q.2) = true := by decide +kernel
theorem zm_245 : z_mok (z_mi 245) (z_ml 245) = true := by decide +kernel
theorem zk_245 : zc_245.all (fun q => z_opok z_mi z_NM RX8 false (some .boolean) prog_10_method_73_code q.1 q.2) = true := by decide +kernel
theorem zm_246 : z_mok (z_mi 246) (z_ml 246) = true := by decide +kernel
theorem zk_246 : zc_246.all (fun q => z_opok z_mi z_NM RX8 false (some .int) prog_10_method_74_code q.1 q.2) = true := by decide +kernel
theorem zm_247 : z_mok (z_mi 247) (z_ml 247) = true := by decide +kernel
theorem zk_247 : zc_247.all (fun q => z_opok z_mi z_NM RX8 false (some .boolean) prog_10_method_75_code q.1 q.2) = true := by decide +kernel
theorem zm_248 : z_mok (z_mi 248) (z_ml 248) = true := by decide +kernel
theorem zk_248 : zc_248.all (fun q => z_opok z_mi z_NM RX8 false (some .boolean) prog_10_method_76_code q.1 q.2) = true := by decide +kernel
theorem zm_249 : z_mok (z_mi 249) (z_ml 249) = true := by decide +kernel
theorem zk_249 : zc_249.all (fun q => z_opok z_mi z_NM RX8 false (some .int) prog_10_method_77_code q.1 q.2) = true := by decide +kernel
theorem zm_250 : z_mok (z_mi 250) (z_ml 250) = true := by decide +kernel
theorem zk_250 : zc_250.all (fun q => z_opok z_mi z_NM RX8 false (some .int) prog_10_method_78_code q.1 q.2) = true := by decide +kernel
theorem zm_251 : z_mok (z_mi 251) (z_ml 251) = true := by decide +kernel
theorem zk_251 : zc_251.all (fun q => z_opok z_mi z_NM RX8 false (some .int) prog_10_method_79_code q.1 q.2) = true := by decide +kernel
theorem zm_252 : z_mok (z_mi 252) (z_ml 252) = true := by decide +kernel
theorem zk_252 : zc_252.all (fun q => z_opok z_mi z_NM RX8 false (some .boolean) prog_10_method_80_code q.1 q.2) = true := by decide +kernel
theorem zm_253 : z_mok (z_mi 253) (z_ml 253) = true := by decide +kernel
theorem zk_253 : zc_253.all (fun q => z_opok z_mi z_NM RX8 false (some .int) prog_10_method_81_code q.1 q.2) = true := by decide +kernel
theorem zm_254 : z_mok (z_mi 254) (z_ml 254) = true := by decide +kernel
theorem zk_254 : zc_254.all (fun q => z_opok z_mi z_NM RX8 false (some .int) prog_10_method_82_code q.1 q.2) = true := by decide +kernel
theorem zm_255 : z_mok (z_mi 255) (z_ml 255) = true := by decide +kernel
theorem zk_255 : zc_255.all (fun q => z_opok z_mi z_NM RX8 false (some .int) prog_10_method_83_code q.1 q.2) = true := by decide +kernel
theorem zm_256 : z_mok (z_mi 256) (z_ml 256) = true := by decide +kernel
theorem zk_256 : zc_256.all (fun q => z_opok z_mi z_NM RX8 false (some .int) prog_10_method_84_code q.1 q.2) = true := by decide +kernel
