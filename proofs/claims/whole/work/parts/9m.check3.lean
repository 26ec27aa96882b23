theorem zm_172 : z_mok (z_mi 172) (z_ml 172) = true := by decide +kernel
theorem zk_172 : zc_172.all (fun q => z_opok z_mi z_NM RX7 false (some .int) prog_1_method_54_code q.1 q.2) = true := by decide +kernel
theorem zm_173 : z_mok (z_mi 173) (z_ml 173) = true := by decide +kernel
theorem zk_173 : zc_173.all (fun q => z_opok z_mi z_NM RX8 true (none) prog_10_method_1_code q.1 q.2) = true := by decide +kernel
theorem zm_174 : z_mok (z_mi 174) (z_ml 174) = true := by decide +kernel
theorem zk_174 : zc_174.all (fun q => z_opok z_mi z_NM RX8 false (some .boolean) prog_10_method_2_code q.1 q.2) = true := by decide +kernel
theorem zm_175 : z_mok (z_mi 175) (z_ml 175) = true := by decide +kernel
theorem zk_175 : zc_175.all (fun q => z_opok z_mi z_NM RX8 false (some .int) prog_10_method_3_code q.1 q.2) = true := by decide +kernel
theorem zm_176 : z_mok (z_mi 176) (z_ml 176) = true := by decide +kernel
theorem zk_176 : zc_176.all (fun q => z_opok z_mi z_NM RX8 false (none) prog_10_method_4_code q.1 q.2) = true := by decide +kernel
theorem zm_177 : z_mok (z_mi 177) (z_ml 177) = true := by decide +kernel
theorem zk_177 : zc_177.all (fun q => z_opok z_mi z_NM RX8 false (some .int) prog_10_method_5_code q.1 q.2) = true := by decide +kernel
theorem zm_178 : z_mok (z_mi 178) (z_ml 178) = true := by decide +kernel
theorem zk_178 : zc_178.all (fun q => z_opok z_mi z_NM RX8 false (some .boolean) prog_10_method_6_code q.1 q.2) = true := by decide +kernel
theorem zm_179 : z_mok (z_mi 179) (z_ml 179) = true := by decide +kernel
theorem zk_179 : zc_179.all (fun q => z_opok z_mi z_NM RX8 false (some .boolean) prog_10_method_7_code q.1 q.2) = true := by decide +kernel
theorem zm_180 : z_mok (z_mi 180) (z_ml 180) = true := by decide +kernel
theorem zk_180 : zc_180.all (fun q => z_opok z_mi z_NM RX8 false (some .boolean) prog_10_method_8_code q.1 q.2) = true := by decide +kernel
theorem zm_181 : z_mok (z_mi 181) (z_ml 181) = true := by decide +kernel
theorem zk_181 : zc_181.all (fun q => z_opok z_mi z_NM RX8 false (none) prog_10_method_9_code q.1 q.2) = true := by decide +kernel
theorem zm_182 : z_mok (z_mi 182) (z_ml 182) = true := by decide +kernel
theorem zk_182 : zc_182.all (fun q => z_opok z_mi z_NM RX8 false (some .int) prog_10_method_10_code q.1 q.2) = true := by decide +kernel
theorem zm_183 : z_mok (z_mi 183) (z_ml 183) = true := by decide +kernel
theorem zk_183 : zc_183.all (fun q => z_opok z_mi z_NM RX8 false (some .int) prog_10_method_11_code q.1 q.2) = true := by decide +kernel
theorem zm_184 : z_mok (z_mi 184) (z_ml 184) = true := by decide +kernel
theorem zk_184 : zc_184.all (fun q => z_opok z_mi z_NM RX8 false (some .int) prog_10_method_12_code q.1 q.2) = true := by decide +kernel
theorem zm_185 : z_mok (z_mi 185) (z_ml 185) = true := by decide +kernel
theorem zk_185 : zc_185.all (fun q => z_opok z_mi z_NM RX8 false (some .int) prog_10_method_13_code q.1 q.2) = true := by decide +kernel
theorem zm_186 : z_mok (z_mi 186) (z_ml 186) = true := by decide +kernel
theorem zk_186 : zc_186.all (fun q => z_opok z_mi z_NM RX8 false (none) prog_10_method_14_code q.1 q.2) = true := by decide +kernel
theorem zm_187 : z_mok (z_mi 187) (z_ml 187) = true := by decide +kernel
theorem zk_187 : zc_187.all (fun q => z_opok z_mi z_NM RX8 false (some .int) prog_10_method_15_code q.1 q.2) = true := by decide +kernel
theorem zm_188 : z_mok (z_mi 188) (z_ml 188) = true := by decide +kernel
theorem zk_188 : zc_188.all (fun q => z_opok z_mi z_NM RX8 false (some .int) prog_10_method_16_code q.1 q.2) = true := by decide +kernel
theorem zm_189 : z_mok (z_mi 189) (z_ml 189) = true := by decide +kernel
theorem zk_189 : zc_189.all (fun q => z_opok z_mi z_NM RX8 false (some .int) prog_10_method_17_code q.1 q.2) = true := by decide +kernel
theorem zm_190 : z_mok (z_mi 190) (z_ml 190) = true := by decide +kernel
theorem zk_190 : zc_190.all (fun q => z_opok z_mi z_NM RX8 false (some .int) prog_10_method_18_code q.1 q.2) = true := by decide +kernel
theorem zm_191 : z_mok (z_mi 191) (z_ml 191) = true := by decide +kernel
theorem zk_191 : zc_191.all (fun q => z_opok z_mi z_NM RX8 false (none) prog_10_method_19_code q.1 q.2) = true := by decide +kernel
theorem zm_192 : z_mok (z_mi 192) (z_ml 192) = true := by decide +kernel
theorem zk_192 : zc_192.all (fun q => z_opok z_mi z_NM RX8 false (none) prog_10_method_20_code q.1 q.2) = true := by decide +kernel
theorem zm_193 : z_mok (z_mi 193) (z_ml 193) = true := by decide +kernel
theorem zk_193 : zc_193.all (fun q => z_opok z_mi z_NM RX8 false (none) prog_10_method_21_code q.1 q.2) = true := by decide +kernel
theorem zm_194 : z_mok (z_mi 194) (z_ml 194) = true := by decide +kernel
theorem zk_194 : zc_194.all (fun q => z_opok z_mi z_NM RX8 false (some .boolean) prog_10_method_22_code q.1 q.2) = true := by decide +kernel
theorem zm_195 : z_mok (z_mi 195) (z_ml 195) = true := by decide +kernel
theorem zk_195 : zc_195.all (fun q => z_opok z_mi z_NM RX8 false (some .boolean) prog_10_method_23_code q.1 q.2) = true := by decide +kernel
theorem zm_196 : z_mok (z_mi 196) (z_ml 196) = true := by decide +kernel
theorem zk_196 : zc_196.all (fun q => z_opok z_mi z_NM RX8 false (some .int) prog_10_method_24_code q.1 q.2) = true := by decide +kernel
theorem zm_197 : z_mok (z_mi 197) (z_ml 197) = true := by decide +kernel
theorem zk_197 : zc_197.all (fun q => z_opok z_mi z_NM RX8 false (some .int) prog_10_method_25_code q.1 q.2) = true := by decide +kernel
theorem zm_198 : z_mok (z_mi 198) (z_ml 198) = true := by decide +kernel
theorem zk_198 : zc_198.all (fun q => z_opok z_mi z_NM RX8 false (some .boolean) prog_10_method_26_code q.1 q.2) = true := by decide +kernel
theorem zm_199 : z_mok (z_mi 199) (z_ml 199) = true := by decide +kernel
theorem zk_199 : zc_199.all (fun q => z_opok z_mi z_NM RX8 false (none) prog_10_method_27_code q.1 q.2) = true := by decide +kernel
theorem zm_200 : z_mok (z_mi 200) (z_ml 200) = true := by decide +kernel
theorem zk_200 : zc_200.all (fun q => z_opok z_mi z_NM RX8 false (some .int) prog_10_method_28_code q.1 q.2) = true := by decide +kernel
theorem zm_201 : z_mok (z_mi 201) (z_ml 201) = true := by decide +kernel
theorem zk_201 : zc_201.all (fun q => z_opok z_mi z_NM RX8 false (some .int) prog_10_method_29_code q.1 q.2) = true := by decide +kernel
theorem zm_202 : z_mok (z_mi 202) (z_ml 202) = true := by decide +kernel
theorem zk_202 : zc_202.all (fun q => z_opok z_mi z_NM RX8 false (none) prog_10_method_30_code q.1 q.2) = true := by decide +kernel
theorem zm_203 : z_mok (z_mi 203) (z_ml 203) = true := by decide +kernel
theorem zk_203 : zc_203.all (fun q => z_opok z_mi z_NM RX8 false (none) prog_10_method_31_code q.1 q.2) = true := by decide +kernel
theorem zm_204 : z_mok (z_mi 204) (z_ml 204) = true := by decide +kernel
theorem zk_204 : zc_204.all (fun q => z_opok z_mi z_NM RX8 false (none) prog_10_method_32_code q.1 q.2) = true := by decide +kernel
theorem zm_205 : z_mok (z_mi 205) (z_ml 205) = true := by decide +kernel
theorem zk_205 : zc_205.all (fun q => z_opok z_mi z_NM RX8 false (none) prog_10_method_33_code q.1 q.2) = true := by decide +kernel
theorem zm_206 : z_mok (z_mi 206) (z_ml 206) = true := by decide +kernel
theorem zk_206 : zc_206.all (fun q => z_opok z_mi z_NM RX8 false (none) prog_10_method_34_code q.1 q.2) = true := by decide +kernel
theorem zm_207 : z_mok (z_mi 207) (z_ml 207) = true := by decide +kernel
theorem zk_207 : zc_207.all (fun q => z_opok z_mi z_NM RX8 false (none) prog_10_method_35_code q.1 q.2) = true := by decide +kernel
theorem zm_208 : z_mok (z_mi 208) (z_ml 208) = true := by decide +kernel
theorem zk_208 : zc_208.all (fun q => z_opok z_mi z_NM RX8 false (none) prog_10_method_36_code q.1 q.2) = true := by decide +kernel
theorem zm_209 : z_mok (z_mi 209) (z_ml 209) = true := by decide +kernel
theorem zk_209 : zc_209.all (fun q => z_opok z_mi z_NM RX8 false (none) prog_10_method_37_code q.1 q.2) = true := by decide +kernel
theorem zm_210 : z_mok (z_mi 210) (z_ml 210) = true := by decide +kernel
theorem zk_210 : zc_210.all (fun q => z_opok z_mi z_NM RX8 false (none) prog_10_method_38_code q.1 q.2) = true := by decide +kernel
theorem zm_211 : z_mok (z_mi 211) (z_ml 211) = true := by decide +kernel
theorem zk_211 : zc_211.all (fun q => z_opok z_mi z_NM RX8 false (some .boolean) prog_10_method_39_code q.1 q.2) = true := by decide +kernel
theorem zm_212 : z_mok (z_mi 212) (z_ml 212) = true := by decide +kernel
theorem zk_212 : zc_212.all (fun q => z_opok z_mi z_NM RX8 false (none) prog_10_method_40_code q.1 q.2) = true := by decide +kernel
theorem zm_213 : z_mok (z_mi 213) (z_ml 213) = true := by decide +kernel
theorem zk_213 : zc_213.all (fun q => z_opok z_mi z_NM RX8 false (none) prog_10_method_41_code q.1 q.2) = true := by decide +kernel
