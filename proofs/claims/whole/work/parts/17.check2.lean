theorem zk_26 : ([208, 209, 210, 211, 212, 213, 214, 215] : List Nat).all z_chk = true := by decide +kernel
theorem zk_27 : ([216, 217, 218, 219, 220, 221, 222, 223] : List Nat).all z_chk = true := by decide +kernel
theorem zk_28 : ([224, 225, 226, 227, 228, 229, 230, 231] : List Nat).all z_chk = true := by decide +kernel
theorem zk_29 : ([232, 233, 234, 235, 236, 237, 238, 239] : List Nat).all z_chk = true := by decide +kernel
theorem zk_30 : ([240, 241, 242, 243, 244, 245, 246, 247] : List Nat).all z_chk = true := by decide +kernel
theorem zk_31 : ([248, 249, 250, 251, 252, 253, 254, 255] : List Nat).all z_chk = true := by decide +kernel
theorem zk_32 : ([256, 257, 258, 259, 260, 261, 262, 263] : List Nat).all z_chk = true := by decide +kernel
theorem zk_33 : ([264, 265, 266, 267, 268, 269, 270, 271] : List Nat).all z_chk = true := by decide +kernel
theorem zk_34 : ([272, 273, 274, 275, 276, 277, 278, 279] : List Nat).all z_chk = true := by decide +kernel
theorem zk_35 : ([280, 281, 282, 283, 284, 285, 286, 287] : List Nat).all z_chk = true := by decide +kernel
theorem zk_36 : ([288, 289, 290, 291, 292, 293, 294, 295] : List Nat).all z_chk = true := by decide +kernel
theorem zk_37 : ([296, 297, 298, 299, 300, 301, 302, 303] : List Nat).all z_chk = true := by decide +kernel
theorem zk_38 : ([304, 305, 306, 307, 308, 309, 310] : List Nat).all z_chk = true := by decide +kernel
