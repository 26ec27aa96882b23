theorem zm_56 : z_mok (z_mi 56) (z_ml 56) = true := by decide +kernel
theorem zk_56 : zc_56.all (fun q => z_opok z_mi z_NM RX3 false (none) prog_5_method_21_code q.1 q.2) = true := by decide +kernel
theorem zm_57 : z_mok (z_mi 57) (z_ml 57) = true := by decide +kernel
theorem zk_57 : zc_57.all (fun q => z_opok z_mi z_NM RX3 false (some .int) prog_5_method_22_code q.1 q.2) = true := by decide +kernel
theorem zm_58 : z_mok (z_mi 58) (z_ml 58) = true := by decide +kernel
theorem zk_58 : zc_58.all (fun q => z_opok z_mi z_NM RX3 false (some .int) prog_5_method_23_code q.1 q.2) = true := by decide +kernel
theorem zm_59 : z_mok (z_mi 59) (z_ml 59) = true := by decide +kernel
theorem zk_59 : zc_59.all (fun q => z_opok z_mi z_NM RX3 false (some .int) prog_5_method_24_code q.1 q.2) = true := by decide +kernel
theorem zm_60 : z_mok (z_mi 60) (z_ml 60) = true := by decide +kernel
theorem zk_60 : zc_60.all (fun q => z_opok z_mi z_NM RX3 false (none) prog_5_method_25_code q.1 q.2) = true := by decide +kernel
theorem zm_61 : z_mok (z_mi 61) (z_ml 61) = true := by decide +kernel
theorem zk_61 : zc_61.all (fun q => z_opok z_mi z_NM RX3 false (some .int) prog_5_method_26_code q.1 q.2) = true := by decide +kernel
theorem zm_62 : z_mok (z_mi 62) (z_ml 62) = true := by decide +kernel
theorem zk_62 : zc_62.all (fun q => z_opok z_mi z_NM RX4 true (none) prog_6_method_1_code q.1 q.2) = true := by decide +kernel
theorem zm_63 : z_mok (z_mi 63) (z_ml 63) = true := by decide +kernel
theorem zk_63 : zc_63.all (fun q => z_opok z_mi z_NM RX4 false (some .int) prog_6_method_2_code q.1 q.2) = true := by decide +kernel
theorem zm_64 : z_mok (z_mi 64) (z_ml 64) = true := by decide +kernel
theorem zk_64 : zc_64.all (fun q => z_opok z_mi z_NM RX4 false (some .boolean) prog_6_method_3_code q.1 q.2) = true := by decide +kernel
theorem zm_65 : z_mok (z_mi 65) (z_ml 65) = true := by decide +kernel
theorem zk_65 : zc_65.all (fun q => z_opok z_mi z_NM RX4 false (some .int) prog_6_method_4_code q.1 q.2) = true := by decide +kernel
theorem zm_66 : z_mok (z_mi 66) (z_ml 66) = true := by decide +kernel
theorem zk_66 : zc_66.all (fun q => z_opok z_mi z_NM RX4 false (some .int) prog_6_method_5_code q.1 q.2) = true := by decide +kernel
theorem zm_67 : z_mok (z_mi 67) (z_ml 67) = true := by decide +kernel
theorem zk_67 : zc_67.all (fun q => z_opok z_mi z_NM RX4 false (some .int) prog_6_method_6_code q.1 q.2) = true := by decide +kernel
theorem zm_68 : z_mok (z_mi 68) (z_ml 68) = true := by decide +kernel
theorem zk_68 : zc_68.all (fun q => z_opok z_mi z_NM RX4 false (some .int) prog_6_method_7_code q.1 q.2) = true := by decide +kernel
theorem zm_69 : z_mok (z_mi 69) (z_ml 69) = true := by decide +kernel
theorem zk_69 : zc_69.all (fun q => z_opok z_mi z_NM RX4 false (some .int) prog_6_method_8_code q.1 q.2) = true := by decide +kernel
theorem zm_70 : z_mok (z_mi 70) (z_ml 70) = true := by decide +kernel
theorem zk_70 : zc_70.all (fun q => z_opok z_mi z_NM RX4 false (some .int) prog_6_method_9_code q.1 q.2) = true := by decide +kernel
theorem zm_71 : z_mok (z_mi 71) (z_ml 71) = true := by decide +kernel
theorem zk_71 : zc_71.all (fun q => z_opok z_mi z_NM RX4 false (some .boolean) prog_6_method_10_code q.1 q.2) = true := by decide +kernel
theorem zm_72 : z_mok (z_mi 72) (z_ml 72) = true := by decide +kernel
theorem zk_72 : zc_72.all (fun q => z_opok z_mi z_NM RX4 false (some .boolean) prog_6_method_11_code q.1 q.2) = true := by decide +kernel
theorem zm_73 : z_mok (z_mi 73) (z_ml 73) = true := by decide +kernel
theorem zk_73 : zc_73.all (fun q => z_opok z_mi z_NM RX4 false (none) prog_6_method_12_code q.1 q.2) = true := by decide +kernel
theorem zm_74 : z_mok (z_mi 74) (z_ml 74) = true := by decide +kernel
theorem zk_74 : zc_74.all (fun q => z_opok z_mi z_NM RX4 false (some .int) prog_6_method_13_code q.1 q.2) = true := by decide +kernel
theorem zm_75 : z_mok (z_mi 75) (z_ml 75) = true := by decide +kernel
theorem zk_75 : zc_75.all (fun q => z_opok z_mi z_NM RX4 false (some .int) prog_6_method_14_code q.1 q.2) = true := by decide +kernel
theorem zm_76 : z_mok (z_mi 76) (z_ml 76) = true := by decide +kernel
theorem zk_76 : zc_76.all (fun q => z_opok z_mi z_NM RX4 false (some .int) prog_6_method_15_code q.1 q.2) = true := by decide +kernel
theorem zm_77 : z_mok (z_mi 77) (z_ml 77) = true := by decide +kernel
theorem zk_77 : zc_77.all (fun q => z_opok z_mi z_NM RX4 false (none) prog_6_method_16_code q.1 q.2) = true := by decide +kernel
theorem zm_78 : z_mok (z_mi 78) (z_ml 78) = true := by decide +kernel
theorem zk_78 : zc_78.all (fun q => z_opok z_mi z_NM RX4 false (some .boolean) prog_6_method_17_code q.1 q.2) = true := by decide +kernel
theorem zm_79 : z_mok (z_mi 79) (z_ml 79) = true := by decide +kernel
theorem zk_79 : zc_79.all (fun q => z_opok z_mi z_NM RX4 false (some .boolean) prog_6_method_18_code q.1 q.2) = true := by decide +kernel
theorem zm_80 : z_mok (z_mi 80) (z_ml 80) = true := by decide +kernel
theorem zk_80 : zc_80.all (fun q => z_opok z_mi z_NM RX4 false (some .boolean) prog_6_method_19_code q.1 q.2) = true := by decide +kernel
theorem zm_81 : z_mok (z_mi 81) (z_ml 81) = true := by decide +kernel
theorem zk_81 : zc_81.all (fun q => z_opok z_mi z_NM RX4 false (some .int) prog_6_method_20_code q.1 q.2) = true := by decide +kernel
theorem zm_82 : z_mok (z_mi 82) (z_ml 82) = true := by decide +kernel
theorem zk_82 : zc_82.all (fun q => z_opok z_mi z_NM RX4 false (some .boolean) prog_6_method_21_code q.1 q.2) = true := by decide +kernel
theorem zm_83 : z_mok (z_mi 83) (z_ml 83) = true := by decide +kernel
theorem zk_83 : zc_83.all (fun q => z_opok z_mi z_NM RX5 true (none) prog_7_method_1_code q.1 q.2) = true := by decide +kernel
theorem zm_84 : z_mok (z_mi 84) (z_ml 84) = true := by decide +kernel
theorem zk_84 : zc_84.all (fun q => z_opok z_mi z_NM RX5 false (some .int) prog_7_method_2_code q.1 q.2) = true := by decide +kernel
theorem zm_85 : z_mok (z_mi 85) (z_ml 85) = true := by decide +kernel
theorem zk_85 : zc_85.all (fun q => z_opok z_mi z_NM RX5 false (some .boolean) prog_7_method_3_code q.1 q.2) = true := by decide +kernel
theorem zm_86 : z_mok (z_mi 86) (z_ml 86) = true := by decide +kernel
theorem zk_86 : zc_86.all (fun q => z_opok z_mi z_NM RX5 false (some .int) prog_7_method_4_code q.1 q.2) = true := by decide +kernel
theorem zm_87 : z_mok (z_mi 87) (z_ml 87) = true := by decide +kernel
theorem zk_87 : zc_87.all (fun q => z_opok z_mi z_NM RX5 false (some .boolean) prog_7_method_5_code q.1 q.2) = true := by decide +kernel
theorem zm_88 : z_mok (z_mi 88) (z_ml 88) = true := by decide +kernel
theorem zk_88 : zc_88.all (fun q => z_opok z_mi z_NM RX5 false (some .boolean) prog_7_method_6_code q.1 q.2) = true := by decide +kernel
theorem zm_89 : z_mok (z_mi 89) (z_ml 89) = true := by decide +kernel
theorem zk_89 : zc_89.all (fun q => z_opok z_mi z_NM RX5 false (some .boolean) prog_7_method_7_code q.1 q.2) = true := by decide +kernel
theorem zm_90 : z_mok (z_mi 90) (z_ml 90) = true := by decide +kernel
theorem zk_90 : zc_90.all (fun q => z_opok z_mi z_NM RX5 false (some .int) prog_7_method_8_code q.1 q.2) = true := by decide +kernel
theorem zm_91 : z_mok (z_mi 91) (z_ml 91) = true := by decide +kernel
theorem zk_91 : zc_91.all (fun q => z_opok z_mi z_NM RX5 false (some .int) prog_7_method_9_code q.1 q.2) = true := by decide +kernel
theorem zm_92 : z_mok (z_mi 92) (z_ml 92) = true := by decide +kernel
theorem zk_92 : zc_92.all (fun q => z_opok z_mi z_NM RX5 false (some .int) prog_7_method_10_code q.1 q.2) = true := by decide +kernel
theorem zm_93 : z_mok (z_mi 93) (z_ml 93) = true := by decide +kernel
theorem zk_93 : zc_93.all (fun q => z_opok z_mi z_NM RX5 false (some .int) prog_7_method_11_code q.1 q.2) = true := by decide +kernel
theorem zm_94 : z_mok (z_mi 94) (z_ml 94) = true := by decide +kernel
theorem zk_94 : zc_94.all (fun q => z_opok z_mi z_NM RX5 false (some .int) prog_7_method_12_code q.1 q.2) = true := by decide +kernel
theorem zm_95 : z_mok (z_mi 95) (z_ml 95) = true := by decide +kernel
theorem zk_95 : zc_95.all (fun q => z_opok z_mi z_NM RX5 false (some .int) prog_7_method_13_code q.1 q.2) = true := by decide +kernel
theorem zm_96 : z_mok (z_mi 96) (z_ml 96) = true := by decide +kernel
theorem zk_96 : zc_96.all (fun q => z_opok z_mi z_NM RX5 false (some .int) prog_7_method_14_code q.1 q.2) = true := by decide +kernel
theorem zm_97 : z_mok (z_mi 97) (z_ml 97) = true := by decide +kernel
theorem zk_97 : zc_97.all (fun q => z_opok z_mi z_NM RX5 false (some .int) prog_7_method_15_code q.1 q.2) = true := by decide +kernel
theorem zm_98 : z_mok (z_mi 98) (z_ml 98) = true := by decide +kernel
theorem zk_98 : zc_98.all (fun q => z_opok z_mi z_NM RX5 false (some .int) prog_7_method_16_code q.1 q.2) = true := by decide +kernel
theorem zm_99 : z_mok (z_mi 99) (z_ml 99) = true := by decide +kernel
theorem zk_99 : zc_99.all (fun q => z_opok z_mi z_NM RX5 false (some .int) prog_7_method_17_code q.1 q.2) = true := by decide +kernel
theorem zm_100 : z_mok (z_mi 100) (z_ml 100) = true := by decide +kernel
theorem zk_100 : zc_100.all (fun q => z_opok z_mi z_NM RX5 false (some .int) prog_7_method_18_code q.1 q.2) = true := by decide +kernel
theorem zm_101 : z_mok (z_mi 101) (z_ml 101) = true := by decide +kernel
theorem zk_101 : zc_101.all (fun q => z_opok z_mi z_NM RX5 false (some .int) prog_7_method_19_code q.1 q.2) = true := by decide +kernel
theorem zm_102 : z_mok (z_mi 102) (z_ml 102) = true := by decide +kernel
theorem zk_102 : zc_102.all (fun q => z_opok z_mi z_NM RX5 false (some .boolean) prog_7_method_20_code q.1 q.2) = true := by decide +kernel
theorem zm_103 : z_mok (z_mi 103) (z_ml 103) = true := by decide +kernel
theorem zk_103 : zc_103.all (fun q => z_opok z_mi z_NM RX5 false (some .int) prog_7_method_21_code q.1 q.2) = true := by decide +kernel
theorem zm_104 : z_mok (z_mi 104) (z_ml 104) = true := by decide +kernel
theorem zk_104 : zc_104.all (fun q => z_opok z_mi z_NM RX5 false (some .int) prog_7_method_22_code q.1 q.2) = true := by decide +kernel
theorem zm_105 : z_mok (z_mi 105) (z_ml 105) = true := by decide +kernel
theorem zk_105 : zc_105.all (fun q => z_opok z_mi z_NM RX5 false (some .int) prog_7_method_23_code q.1 q.2) = true := by decide +kernel
theorem zm_106 : z_mok (z_mi 106) (z_ml 106) = true := by decide +kernel
theorem zk_106 : zc_106.all (fun q => z_opok z_mi z_NM RX5 false (some .int) prog_7_method_24_code q.1 q.2) = true := by decide +kernel
theorem zm_107 : z_mok (z_mi 107) (z_ml 107) = true := by decide +kernel
theorem zk_107 : zc_107.all (fun q => z_opok z_mi z_NM RX5 false (some .boolean) prog_7_method_25_code q.1 q.2) = true := by decide +kernel
theorem zm_108 : z_mok (z_mi 108) (z_ml 108) = true := by decide +kernel
theorem zk_108 : zc_108.all (fun q => z_opok z_mi z_NM RX5 false (some .boolean) prog_7_method_26_code q.1 q.2) = true := by decide +kernel
theorem zm_109 : z_mok (z_mi 109) (z_ml 109) = true := by decide +kernel
theorem zk_109 : zc_109.all (fun q => z_opok z_mi z_NM RX5 false (none) prog_7_method_27_code q.1 q.2) = true := by decide +kernel
theorem zm_110 : z_mok (z_mi 110) (z_ml 110) = true := by decide +kernel
theorem zk_110 : zc_110.all (fun q => z_opok z_mi z_NM RX5 false (some .int) prog_7_method_28_code q.1 q.2) = true := by decide +kernel
theorem zm_111 : z_mok (z_mi 111) (z_ml 111) = true := by decide +kernel
theorem zk_111 : zc_111.all (fun q => z_opok z_mi z_NM RX5 false (none) prog_7_method_29_code q.1 q.2) = true := by decide +kernel
theorem zm_112 : z_mok (z_mi 112) (z_ml 112) = true := by decide +kernel
theorem zk_112 : zc_112.all (fun q => z_opok z_mi z_NM RX6 true (none) prog_8_method_1_code q.1 q.2) = true := by decide +kernel
theorem zm_113 : z_mok (z_mi 113) (z_ml 113) = true := by decide +kernel
theorem zk_113 : zc_113.all (fun q => z_opok z_mi z_NM RX6 false (some .long) prog_8_method_2_code q.1 q.2) = true := by decide +kernel
theorem zm_114 : z_mok (z_mi 114) (z_ml 114) = true := by decide +kernel
theorem zk_114 : zc_114.all (fun q => z_opok z_mi z_NM RX6 false (some .boolean) prog_8_method_3_code q.1 q.2) = true := by decide +kernel
theorem zm_115 : z_mok (z_mi 115) (z_ml 115) = true := by decide +kernel
theorem zk_115 : zc_115.all (fun q => z_opok z_mi z_NM RX6 false (some .long) prog_8_method_4_code q.1 q.2) = true := by decide +kernel
theorem zm_116 : z_mok (z_mi 116) (z_ml 116) = true := by decide +kernel
theorem zk_116 : zc_116.all (fun q => z_opok z_mi z_NM RX6 false (some .long) prog_8_method_5_code q.1 q.2) = true := by decide +kernel
theorem zm_117 : z_mok (z_mi 117) (z_ml 117) = true := by decide +kernel
theorem zk_117 : zc_117.all (fun q => z_opok z_mi z_NM RX6 false (some .long) prog_8_method_6_code q.1 q.2) = true := by decide +kernel
theorem zm_118 : z_mok (z_mi 118) (z_ml 118) = true := by decide +kernel
theorem zk_118 : zc_118.all (fun q => z_opok z_mi z_NM RX6 false (some .long) prog_8_method_7_code q.1 q.2) = true := by decide +kernel
theorem zm_119 : z_mok (z_mi 119) (z_ml 119) = true := by decide +kernel
theorem zk_119 : zc_119.all (fun q => z_opok z_mi z_NM RX7 true (none) prog_1_method_1_code q.1 q.2) = true := by decide +kernel
theorem zm_120 : z_mok (z_mi 120) (z_ml 120) = true := by decide +kernel
theorem zk_120 : zc_120.all (fun q => z_opok z_mi z_NM RX7 false (some .int) prog_1_method_2_code q.1 q.2) = true := by decide +kernel
theorem zm_121 : z_mok (z_mi 121) (z_ml 121) = true := by decide +kernel
theorem zk_121 : zc_121.all (fun q => z_opok z_mi z_NM RX7 false (some .int) prog_1_method_3_code q.1 q.2) = true := by decide +kernel
theorem zm_122 : z_mok (z_mi 122) (z_ml 122) = true := by decide +kernel
theorem zk_122 : zc_122.all (fun q => z_opok z_mi z_NM RX7 false (some .int) prog_1_method_4_code q.1 q.2) = true := by decide +kernel
theorem zm_123 : z_mok (z_mi 123) (z_ml 123) = true := by decide +kernel
theorem zk_123 : zc_123.all (fun q => z_opok z_mi z_NM RX7 false (some .int) prog_1_method_5_code q.1 q.2) = true := by decide +kernel
