theorem zm_0 : z_mok (z_mi 0) (z_ml 0) = true := by decide +kernel
theorem zk_0 : zc_0.all (fun q => z_opok z_mi z_NM RX0 true (none) prog_2_method_1_code q.1 q.2) = true := by decide +kernel
theorem zm_1 : z_mok (z_mi 1) (z_ml 1) = true := by decide +kernel
theorem zk_1 : zc_1.all (fun q => z_opok z_mi z_NM RX0 false (some .int) prog_2_method_2_code q.1 q.2) = true := by decide +kernel
theorem zm_2 : z_mok (z_mi 2) (z_ml 2) = true := by decide +kernel
theorem zk_2 : zc_2.all (fun q => z_opok z_mi z_NM RX0 false (some .int) prog_2_method_3_code q.1 q.2) = true := by decide +kernel
theorem zm_3 : z_mok (z_mi 3) (z_ml 3) = true := by decide +kernel
theorem zk_3 : zc_3.all (fun q => z_opok z_mi z_NM RX0 false (some .boolean) prog_2_method_4_code q.1 q.2) = true := by decide +kernel
theorem zm_4 : z_mok (z_mi 4) (z_ml 4) = true := by decide +kernel
theorem zk_4 : zc_4.all (fun q => z_opok z_mi z_NM RX0 false (none) prog_2_method_5_code q.1 q.2) = true := by decide +kernel
theorem zm_5 : z_mok (z_mi 5) (z_ml 5) = true := by decide +kernel
theorem zk_5 : zc_5.all (fun q => z_opok z_mi z_NM RX0 false (none) prog_2_method_6_code q.1 q.2) = true := by decide +kernel
theorem zm_6 : z_mok (z_mi 6) (z_ml 6) = true := by decide +kernel
theorem zk_6 : zc_6.all (fun q => z_opok z_mi z_NM RX0 false (none) prog_2_method_7_code q.1 q.2) = true := by decide +kernel
theorem zm_7 : z_mok (z_mi 7) (z_ml 7) = true := by decide +kernel
theorem zk_7 : zc_7.all (fun q => z_opok z_mi z_NM RX0 false (none) prog_2_method_8_code q.1 q.2) = true := by decide +kernel
theorem zm_8 : z_mok (z_mi 8) (z_ml 8) = true := by decide +kernel
theorem zk_8 : zc_8.all (fun q => z_opok z_mi z_NM RX0 false (none) prog_2_method_9_code q.1 q.2) = true := by decide +kernel
theorem zm_9 : z_mok (z_mi 9) (z_ml 9) = true := by decide +kernel
theorem zk_9 : zc_9.all (fun q => z_opok z_mi z_NM RX0 false (some .int) prog_2_method_10_code q.1 q.2) = true := by decide +kernel
theorem zm_10 : z_mok (z_mi 10) (z_ml 10) = true := by decide +kernel
theorem zk_10 : zc_10.all (fun q => z_opok z_mi z_NM RX0 false (some .int) prog_2_method_11_code q.1 q.2) = true := by decide +kernel
theorem zm_11 : z_mok (z_mi 11) (z_ml 11) = true := by decide +kernel
theorem zk_11 : zc_11.all (fun q => z_opok z_mi z_NM RX0 false (some .int) prog_2_method_12_code q.1 q.2) = true := by decide +kernel
theorem zm_12 : z_mok (z_mi 12) (z_ml 12) = true := by decide +kernel
theorem zk_12 : zc_12.all (fun q => z_opok z_mi z_NM RX1 true (none) prog_3_method_1_code q.1 q.2) = true := by decide +kernel
theorem zm_13 : z_mok (z_mi 13) (z_ml 13) = true := by decide +kernel
theorem zk_13 : zc_13.all (fun q => z_opok z_mi z_NM RX1 false (some .int) prog_3_method_2_code q.1 q.2) = true := by decide +kernel
theorem zm_14 : z_mok (z_mi 14) (z_ml 14) = true := by decide +kernel
theorem zk_14 : zc_14.all (fun q => z_opok z_mi z_NM RX1 false (some .int) prog_3_method_3_code q.1 q.2) = true := by decide +kernel
theorem zm_15 : z_mok (z_mi 15) (z_ml 15) = true := by decide +kernel
theorem zk_15 : zc_15.all (fun q => z_opok z_mi z_NM RX1 false (none) prog_3_method_4_code q.1 q.2) = true := by decide +kernel
theorem zm_16 : z_mok (z_mi 16) (z_ml 16) = true := by decide +kernel
theorem zk_16 : zc_16.all (fun q => z_opok z_mi z_NM RX1 false (none) prog_3_method_5_code q.1 q.2) = true := by decide +kernel
theorem zm_17 : z_mok (z_mi 17) (z_ml 17) = true := by decide +kernel
theorem zk_17 : zc_17.all (fun q => z_opok z_mi z_NM RX1 false (some (.object RX0)) prog_3_method_6_code q.1 q.2) = true := by decide +kernel
theorem zm_18 : z_mok (z_mi 18) (z_ml 18) = true := by decide +kernel
theorem zk_18 : zc_18.all (fun q => z_opok z_mi z_NM RX1 false (none) prog_3_method_7_code q.1 q.2) = true := by decide +kernel
theorem zm_19 : z_mok (z_mi 19) (z_ml 19) = true := by decide +kernel
theorem zk_19 : zc_19.all (fun q => z_opok z_mi z_NM RX2 true (none) prog_4_method_1_code q.1 q.2) = true := by decide +kernel
theorem zm_20 : z_mok (z_mi 20) (z_ml 20) = true := by decide +kernel
theorem zk_20 : zc_20.all (fun q => z_opok z_mi z_NM RX2 false (some .int) prog_4_method_2_code q.1 q.2) = true := by decide +kernel
theorem zm_21 : z_mok (z_mi 21) (z_ml 21) = true := by decide +kernel
theorem zk_21 : zc_21.all (fun q => z_opok z_mi z_NM RX2 false (some .int) prog_4_method_3_code q.1 q.2) = true := by decide +kernel
theorem zm_22 : z_mok (z_mi 22) (z_ml 22) = true := by decide +kernel
theorem zk_22 : zc_22.all (fun q => z_opok z_mi z_NM RX2 false (some .boolean) prog_4_method_4_code q.1 q.2) = true := by decide +kernel
theorem zm_23 : z_mok (z_mi 23) (z_ml 23) = true := by decide +kernel
theorem zk_23 : zc_23.all (fun q => z_opok z_mi z_NM RX2 false (some .boolean) prog_4_method_5_code q.1 q.2) = true := by decide +kernel
theorem zm_24 : z_mok (z_mi 24) (z_ml 24) = true := by decide +kernel
theorem zk_24 : zc_24.all (fun q => z_opok z_mi z_NM RX2 false (some .int) prog_4_method_6_code q.1 q.2) = true := by decide +kernel
theorem zm_25 : z_mok (z_mi 25) (z_ml 25) = true := by decide +kernel
theorem zk_25 : zc_25.all (fun q => z_opok z_mi z_NM RX2 false (none) prog_4_method_7_code q.1 q.2) = true := by decide +kernel
theorem zm_26 : z_mok (z_mi 26) (z_ml 26) = true := by decide +kernel
theorem zk_26 : zc_26.all (fun q => z_opok z_mi z_NM RX2 false (none) prog_4_method_8_code q.1 q.2) = true := by decide +kernel
theorem zm_27 : z_mok (z_mi 27) (z_ml 27) = true := by decide +kernel
theorem zk_27 : zc_27.all (fun q => z_opok z_mi z_NM RX2 false (none) prog_4_method_9_code q.1 q.2) = true := by decide +kernel
theorem zm_28 : z_mok (z_mi 28) (z_ml 28) = true := by decide +kernel
theorem zk_28 : zc_28.all (fun q => z_opok z_mi z_NM RX2 false (none) prog_4_method_10_code q.1 q.2) = true := by decide +kernel
theorem zm_29 : z_mok (z_mi 29) (z_ml 29) = true := by decide +kernel
theorem zk_29 : zc_29.all (fun q => z_opok z_mi z_NM RX2 false (none) prog_4_method_11_code q.1 q.2) = true := by decide +kernel
theorem zm_30 : z_mok (z_mi 30) (z_ml 30) = true := by decide +kernel
theorem zk_30 : zc_30.all (fun q => z_opok z_mi z_NM RX2 false (some .int) prog_4_method_12_code q.1 q.2) = true := by decide +kernel
theorem zm_31 : z_mok (z_mi 31) (z_ml 31) = true := by decide +kernel
theorem zk_31 : zc_31.all (fun q => z_opok z_mi z_NM RX2 false (some .int) prog_4_method_13_code q.1 q.2) = true := by decide +kernel
theorem zm_32 : z_mok (z_mi 32) (z_ml 32) = true := by decide +kernel
theorem zk_32 : zc_32.all (fun q => z_opok z_mi z_NM RX2 false (none) prog_4_method_14_code q.1 q.2) = true := by decide +kernel
theorem zm_33 : z_mok (z_mi 33) (z_ml 33) = true := by decide +kernel
theorem zk_33 : zc_33.all (fun q => z_opok z_mi z_NM RX2 false (none) prog_4_method_15_code q.1 q.2) = true := by decide +kernel
theorem zm_34 : z_mok (z_mi 34) (z_ml 34) = true := by decide +kernel
theorem zk_34 : zc_34.all (fun q => z_opok z_mi z_NM RX2 false (none) prog_4_method_16_code q.1 q.2) = true := by decide +kernel
theorem zm_35 : z_mok (z_mi 35) (z_ml 35) = true := by decide +kernel
theorem zk_35 : zc_35.all (fun q => z_opok z_mi z_NM RX2 false (some .boolean) prog_4_method_17_code q.1 q.2) = true := by decide +kernel
theorem zm_36 : z_mok (z_mi 36) (z_ml 36) = true := by decide +kernel
theorem zk_36 : zc_36.all (fun q => z_opok z_mi z_NM RX3 true (none) prog_5_method_1_code q.1 q.2) = true := by decide +kernel
theorem zm_37 : z_mok (z_mi 37) (z_ml 37) = true := by decide +kernel
theorem zk_37 : zc_37.all (fun q => z_opok z_mi z_NM RX3 false (none) prog_5_method_2_code q.1 q.2) = true := by decide +kernel
theorem zm_38 : z_mok (z_mi 38) (z_ml 38) = true := by decide +kernel
theorem zk_38 : zc_38.all (fun q => z_opok z_mi z_NM RX3 false (some .int) prog_5_method_3_code q.1 q.2) = true := by decide +kernel
theorem zm_39 : z_mok (z_mi 39) (z_ml 39) = true := by decide +kernel
theorem zk_39 : zc_39.all (fun q => z_opok z_mi z_NM RX3 false (some .int) prog_5_method_4_code q.1 q.2) = true := by decide +kernel
theorem zm_40 : z_mok (z_mi 40) (z_ml 40) = true := by decide +kernel
theorem zk_40 : zc_40.all (fun q => z_opok z_mi z_NM RX3 false (some .int) prog_5_method_5_code q.1 q.2) = true := by decide +kernel
theorem zm_41 : z_mok (z_mi 41) (z_ml 41) = true := by decide +kernel
theorem zk_41 : zc_41.all (fun q => z_opok z_mi z_NM RX3 false (some .int) prog_5_method_6_code q.1 q.2) = true := by decide +kernel
theorem zm_42 : z_mok (z_mi 42) (z_ml 42) = true := by decide +kernel
theorem zk_42 : zc_42.all (fun q => z_opok z_mi z_NM RX3 false (some .int) prog_5_method_7_code q.1 q.2) = true := by decide +kernel
theorem zm_43 : z_mok (z_mi 43) (z_ml 43) = true := by decide +kernel
theorem zk_43 : zc_43.all (fun q => z_opok z_mi z_NM RX3 false (some .int) prog_5_method_8_code q.1 q.2) = true := by decide +kernel
theorem zm_44 : z_mok (z_mi 44) (z_ml 44) = true := by decide +kernel
theorem zk_44 : zc_44.all (fun q => z_opok z_mi z_NM RX3 false (some .int) prog_5_method_9_code q.1 q.2) = true := by decide +kernel
theorem zm_45 : z_mok (z_mi 45) (z_ml 45) = true := by decide +kernel
theorem zk_45 : zc_45.all (fun q => z_opok z_mi z_NM RX3 false (some .int) prog_5_method_10_code q.1 q.2) = true := by decide +kernel
theorem zm_46 : z_mok (z_mi 46) (z_ml 46) = true := by decide +kernel
theorem zk_46 : zc_46.all (fun q => z_opok z_mi z_NM RX3 false (some .int) prog_5_method_11_code q.1 q.2) = true := by decide +kernel
theorem zm_47 : z_mok (z_mi 47) (z_ml 47) = true := by decide +kernel
theorem zk_47 : zc_47.all (fun q => z_opok z_mi z_NM RX3 false (some .int) prog_5_method_12_code q.1 q.2) = true := by decide +kernel
theorem zm_48 : z_mok (z_mi 48) (z_ml 48) = true := by decide +kernel
theorem zk_48 : zc_48.all (fun q => z_opok z_mi z_NM RX3 false (some .boolean) prog_5_method_13_code q.1 q.2) = true := by decide +kernel
theorem zm_49 : z_mok (z_mi 49) (z_ml 49) = true := by decide +kernel
theorem zk_49 : zc_49.all (fun q => z_opok z_mi z_NM RX3 false (some .boolean) prog_5_method_14_code q.1 q.2) = true := by decide +kernel
theorem zm_50 : z_mok (z_mi 50) (z_ml 50) = true := by decide +kernel
theorem zk_50 : zc_50.all (fun q => z_opok z_mi z_NM RX3 false (some .int) prog_5_method_15_code q.1 q.2) = true := by decide +kernel
theorem zm_51 : z_mok (z_mi 51) (z_ml 51) = true := by decide +kernel
theorem zk_51 : zc_51.all (fun q => z_opok z_mi z_NM RX3 false (some .int) prog_5_method_16_code q.1 q.2) = true := by decide +kernel
theorem zm_52 : z_mok (z_mi 52) (z_ml 52) = true := by decide +kernel
theorem zk_52 : zc_52.all (fun q => z_opok z_mi z_NM RX3 false (some .int) prog_5_method_17_code q.1 q.2) = true := by decide +kernel
theorem zm_53 : z_mok (z_mi 53) (z_ml 53) = true := by decide +kernel
theorem zk_53 : zc_53.all (fun q => z_opok z_mi z_NM RX3 false (some .int) prog_5_method_18_code q.1 q.2) = true := by decide +kernel
theorem zm_54 : z_mok (z_mi 54) (z_ml 54) = true := by decide +kernel
theorem zk_54 : zc_54.all (fun q => z_opok z_mi z_NM RX3 false (some .boolean) prog_5_method_19_code q.1 q.2) = true := by decide +kernel
theorem zm_55 : z_mok (z_mi 55) (z_ml 55) = true := by decide +kernel
theorem zk_55 : zc_55.all (fun q => z_opok z_mi z_NM RX3 false (none) prog_5_method_20_code q.1 q.2) = true := by decide +kernel
