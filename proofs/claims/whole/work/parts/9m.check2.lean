theorem zm_124 : z_mok (z_mi 124) (z_ml 124) = true := by decide +kernel
theorem zk_124 : zc_124.all (fun q => z_opok z_mi z_NM RX7 false (some .int) prog_1_method_6_code q.1 q.2) = true := by decide +kernel
theorem zm_125 : z_mok (z_mi 125) (z_ml 125) = true := by decide +kernel
theorem zk_125 : zc_125.all (fun q => z_opok z_mi z_NM RX7 false (some .int) prog_1_method_7_code q.1 q.2) = true := by decide +kernel
theorem zm_126 : z_mok (z_mi 126) (z_ml 126) = true := by decide +kernel
theorem zk_126 : zc_126.all (fun q => z_opok z_mi z_NM RX7 false (some .int) prog_1_method_8_code q.1 q.2) = true := by decide +kernel
theorem zm_127 : z_mok (z_mi 127) (z_ml 127) = true := by decide +kernel
theorem zk_127 : zc_127.all (fun q => z_opok z_mi z_NM RX7 false (some .int) prog_1_method_9_code q.1 q.2) = true := by decide +kernel
theorem zm_128 : z_mok (z_mi 128) (z_ml 128) = true := by decide +kernel
theorem zk_128 : zc_128.all (fun q => z_opok z_mi z_NM RX7 false (some .int) prog_1_method_10_code q.1 q.2) = true := by decide +kernel
theorem zm_129 : z_mok (z_mi 129) (z_ml 129) = true := by decide +kernel
theorem zk_129 : zc_129.all (fun q => z_opok z_mi z_NM RX7 false (some .int) prog_1_method_11_code q.1 q.2) = true := by decide +kernel
theorem zm_130 : z_mok (z_mi 130) (z_ml 130) = true := by decide +kernel
theorem zk_130 : zc_130.all (fun q => z_opok z_mi z_NM RX7 false (some .int) prog_1_method_12_code q.1 q.2) = true := by decide +kernel
theorem zm_131 : z_mok (z_mi 131) (z_ml 131) = true := by decide +kernel
theorem zk_131 : zc_131.all (fun q => z_opok z_mi z_NM RX7 false (some .int) prog_1_method_13_code q.1 q.2) = true := by decide +kernel
theorem zm_132 : z_mok (z_mi 132) (z_ml 132) = true := by decide +kernel
theorem zk_132 : zc_132.all (fun q => z_opok z_mi z_NM RX7 false (some .int) prog_1_method_14_code q.1 q.2) = true := by decide +kernel
theorem zm_133 : z_mok (z_mi 133) (z_ml 133) = true := by decide +kernel
theorem zk_133 : zc_133.all (fun q => z_opok z_mi z_NM RX7 false (none) prog_1_method_15_code q.1 q.2) = true := by decide +kernel
theorem zm_134 : z_mok (z_mi 134) (z_ml 134) = true := by decide +kernel
theorem zk_134 : zc_134.all (fun q => z_opok z_mi z_NM RX7 false (some .boolean) prog_1_method_16_code q.1 q.2) = true := by decide +kernel
theorem zm_135 : z_mok (z_mi 135) (z_ml 135) = true := by decide +kernel
theorem zk_135 : zc_135.all (fun q => z_opok z_mi z_NM RX7 false (some .int) prog_1_method_17_code q.1 q.2) = true := by decide +kernel
theorem zm_136 : z_mok (z_mi 136) (z_ml 136) = true := by decide +kernel
theorem zk_136 : zc_136.all (fun q => z_opok z_mi z_NM RX7 false (some .boolean) prog_1_method_18_code q.1 q.2) = true := by decide +kernel
theorem zm_137 : z_mok (z_mi 137) (z_ml 137) = true := by decide +kernel
theorem zk_137 : zc_137.all (fun q => z_opok z_mi z_NM RX7 false (some .int) prog_1_method_19_code q.1 q.2) = true := by decide +kernel
theorem zm_138 : z_mok (z_mi 138) (z_ml 138) = true := by decide +kernel
theorem zk_138 : zc_138.all (fun q => z_opok z_mi z_NM RX7 false (some .int) prog_1_method_20_code q.1 q.2) = true := by decide +kernel
theorem zm_139 : z_mok (z_mi 139) (z_ml 139) = true := by decide +kernel
theorem zk_139 : zc_139.all (fun q => z_opok z_mi z_NM RX7 false (some .int) prog_1_method_21_code q.1 q.2) = true := by decide +kernel
theorem zm_140 : z_mok (z_mi 140) (z_ml 140) = true := by decide +kernel
theorem zk_140 : zc_140.all (fun q => z_opok z_mi z_NM RX7 false (some .int) prog_1_method_22_code q.1 q.2) = true := by decide +kernel
theorem zm_141 : z_mok (z_mi 141) (z_ml 141) = true := by decide +kernel
theorem zk_141 : zc_141.all (fun q => z_opok z_mi z_NM RX7 false (some .int) prog_1_method_23_code q.1 q.2) = true := by decide +kernel
theorem zm_142 : z_mok (z_mi 142) (z_ml 142) = true := by decide +kernel
theorem zk_142 : zc_142.all (fun q => z_opok z_mi z_NM RX7 false (some .int) prog_1_method_24_code q.1 q.2) = true := by decide +kernel
theorem zm_143 : z_mok (z_mi 143) (z_ml 143) = true := by decide +kernel
theorem zk_143 : zc_143.all (fun q => z_opok z_mi z_NM RX7 false (some .int) prog_1_method_25_code q.1 q.2) = true := by decide +kernel
theorem zm_144 : z_mok (z_mi 144) (z_ml 144) = true := by decide +kernel
theorem zk_144 : zc_144.all (fun q => z_opok z_mi z_NM RX7 false (some .int) prog_1_method_26_code q.1 q.2) = true := by decide +kernel
theorem zm_145 : z_mok (z_mi 145) (z_ml 145) = true := by decide +kernel
theorem zk_145 : zc_145.all (fun q => z_opok z_mi z_NM RX7 false (some .int) prog_1_method_27_code q.1 q.2) = true := by decide +kernel
theorem zm_146 : z_mok (z_mi 146) (z_ml 146) = true := by decide +kernel
theorem zk_146 : zc_146.all (fun q => z_opok z_mi z_NM RX7 false (some .int) prog_1_method_28_code q.1 q.2) = true := by decide +kernel
theorem zm_147 : z_mok (z_mi 147) (z_ml 147) = true := by decide +kernel
theorem zk_147 : zc_147.all (fun q => z_opok z_mi z_NM RX7 false (some .int) prog_1_method_29_code q.1 q.2) = true := by decide +kernel
theorem zm_148 : z_mok (z_mi 148) (z_ml 148) = true := by decide +kernel
theorem zk_148 : zc_148.all (fun q => z_opok z_mi z_NM RX7 false (some .int) prog_1_method_30_code q.1 q.2) = true := by decide +kernel
theorem zm_149 : z_mok (z_mi 149) (z_ml 149) = true := by decide +kernel
theorem zk_149 : zc_149.all (fun q => z_opok z_mi z_NM RX7 false (some .int) prog_1_method_31_code q.1 q.2) = true := by decide +kernel
theorem zm_150 : z_mok (z_mi 150) (z_ml 150) = true := by decide +kernel
theorem zk_150 : zc_150.all (fun q => z_opok z_mi z_NM RX7 false (some .int) prog_1_method_32_code q.1 q.2) = true := by decide +kernel
theorem zm_151 : z_mok (z_mi 151) (z_ml 151) = true := by decide +kernel
theorem zk_151 : zc_151.all (fun q => z_opok z_mi z_NM RX7 false (some .int) prog_1_method_33_code q.1 q.2) = true := by decide +kernel
theorem zm_152 : z_mok (z_mi 152) (z_ml 152) = true := by decide +kernel
theorem zk_152 : zc_152.all (fun q => z_opok z_mi z_NM RX7 false (some .int) prog_1_method_34_code q.1 q.2) = true := by decide +kernel
theorem zm_153 : z_mok (z_mi 153) (z_ml 153) = true := by decide +kernel
theorem zk_153 : zc_153.all (fun q => z_opok z_mi z_NM RX7 false (some .int) prog_1_method_35_code q.1 q.2) = true := by decide +kernel
theorem zm_154 : z_mok (z_mi 154) (z_ml 154) = true := by decide +kernel
theorem zk_154 : zc_154.all (fun q => z_opok z_mi z_NM RX7 false (some .int) prog_1_method_36_code q.1 q.2) = true := by decide +kernel
theorem zm_155 : z_mok (z_mi 155) (z_ml 155) = true := by decide +kernel
theorem zk_155 : zc_155.all (fun q => z_opok z_mi z_NM RX7 false (some .int) prog_1_method_37_code q.1 q.2) = true := by decide +kernel
theorem zm_156 : z_mok (z_mi 156) (z_ml 156) = true := by decide +kernel
theorem zk_156 : zc_156.all (fun q => z_opok z_mi z_NM RX7 false (some .int) prog_1_method_38_code q.1 q.2) = true := by decide +kernel
theorem zm_157 : z_mok (z_mi 157) (z_ml 157) = true := by decide +kernel
theorem zk_157 : zc_157.all (fun q => z_opok z_mi z_NM RX7 false (some .int) prog_1_method_39_code q.1 q.2) = true := by decide +kernel
theorem zm_158 : z_mok (z_mi 158) (z_ml 158) = true := by decide +kernel
theorem zk_158 : zc_158.all (fun q => z_opok z_mi z_NM RX7 false (some .int) prog_1_method_40_code q.1 q.2) = true := by decide +kernel
theorem zm_159 : z_mok (z_mi 159) (z_ml 159) = true := by decide +kernel
theorem zk_159 : zc_159.all (fun q => z_opok z_mi z_NM RX7 false (some .int) prog_1_method_41_code q.1 q.2) = true := by decide +kernel
theorem zm_160 : z_mok (z_mi 160) (z_ml 160) = true := by decide +kernel
theorem zk_160 : zc_160.all (fun q => z_opok z_mi z_NM RX7 false (some .int) prog_1_method_42_code q.1 q.2) = true := by decide +kernel
theorem zm_161 : z_mok (z_mi 161) (z_ml 161) = true := by decide +kernel
theorem zk_161 : zc_161.all (fun q => z_opok z_mi z_NM RX7 false (some .int) prog_1_method_43_code q.1 q.2) = true := by decide +kernel
theorem zm_162 : z_mok (z_mi 162) (z_ml 162) = true := by decide +kernel
theorem zk_162 : zc_162.all (fun q => z_opok z_mi z_NM RX7 false (some .int) prog_1_method_44_code q.1 q.2) = true := by decide +kernel
theorem zm_163 : z_mok (z_mi 163) (z_ml 163) = true := by decide +kernel
theorem zk_163 : zc_163.all (fun q => z_opok z_mi z_NM RX7 false (some .int) prog_1_method_45_code q.1 q.2) = true := by decide +kernel
theorem zm_164 : z_mok (z_mi 164) (z_ml 164) = true := by decide +kernel
theorem zk_164 : zc_164.all (fun q => z_opok z_mi z_NM RX7 false (some .int) prog_1_method_46_code q.1 q.2) = true := by decide +kernel
theorem zm_165 : z_mok (z_mi 165) (z_ml 165) = true := by decide +kernel
theorem zk_165 : zc_165.all (fun q => z_opok z_mi z_NM RX7 false (some .int) prog_1_method_47_code q.1 q.2) = true := by decide +kernel
theorem zm_166 : z_mok (z_mi 166) (z_ml 166) = true := by decide +kernel
theorem zk_166 : zc_166.all (fun q => z_opok z_mi z_NM RX7 false (some .int) prog_1_method_48_code q.1 q.2) = true := by decide +kernel
theorem zm_167 : z_mok (z_mi 167) (z_ml 167) = true := by decide +kernel
theorem zk_167 : zc_167.all (fun q => z_opok z_mi z_NM RX7 false (some .int) prog_1_method_49_code q.1 q.2) = true := by decide +kernel
theorem zm_168 : z_mok (z_mi 168) (z_ml 168) = true := by decide +kernel
theorem zk_168 : zc_168.all (fun q => z_opok z_mi z_NM RX7 false (some .int) prog_1_method_50_code q.1 q.2) = true := by decide +kernel
theorem zm_169 : z_mok (z_mi 169) (z_ml 169) = true := by decide +kernel
theorem zk_169 : zc_169.all (fun q => z_opok z_mi z_NM RX7 false (some .long) prog_1_method_51_code q.1 q.2) = true := by decide +kernel
theorem zm_170 : z_mok (z_mi 170) (z_ml 170) = true := by decide +kernel
theorem zk_170 : zc_170.all (fun q => z_opok z_mi z_NM RX7 false (some .int) prog_1_method_52_code q.1 q.2) = true := by decide +kernel
theorem zm_171 : z_mok (z_mi 171) (z_ml 171) = true := by decide +kernel
theorem zk_171 : zc_171.all (fun q => z_opok z_mi z_NM RX7 false (some .int) prog_1_method_53_code q.1 q.2) = true := by decide +kernel
