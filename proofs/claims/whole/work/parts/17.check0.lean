/-! every entry stands for the instruction that is there -/
def z_chk (k : Nat) : Bool := z_mok (z_mi k) (z_ml k) && (zc_all.getD k []).all (fun q => z_opok z_mi z_NM (z_mi k).1.cls (decide ((z_mi k).1.name = "<init>")) (z_mi k).2.2.1 (z_mi k).2.1 q.1 q.2)
theorem zk_0 : ([0, 1, 2, 3, 4, 5, 6, 7] : List Nat).all z_chk = true := by decide +kernel
theorem zk_1 : ([8, 9, 10, 11, 12, 13, 14, 15] : List Nat).all z_chk = true := by decide +kernel
theorem zk_2 : ([16, 17, 18, 19, 20, 21, 22, 23] : List Nat).all z_chk = true := by decide +kernel
theorem zk_3 : ([24, 25, 26, 27, 28, 29, 30, 31] : List Nat).all z_chk = true := by decide +kernel
theorem zk_4 : ([32, 33, 34, 35, 36, 37, 38, 39] : List Nat).all z_chk = true := by decide +kernel
theorem zk_5 : ([40, 41, 42, 43, 44, 45, 46, 47] : List Nat).all z_chk = true := by decide +kernel
theorem zk_6 : ([48, 49, 50, 51, 52, 53, 54, 55] : List Nat).all z_chk = true := by decide +kernel
theorem zk_7 : ([56, 57, 58, 59, 60, 61, 62, 63] : List Nat).all z_chk = true := by decide +kernel
theorem zk_8 : ([64, 65, 66, 67, 68, 69, 70, 71] : List Nat).all z_chk = true := by decide +kernel
theorem zk_9 : ([72, 73, 74, 75, 76, 77, 78, 79] : List Nat).all z_chk = true := by decide +kernel
theorem zk_10 : ([80, 81, 82, 83, 84, 85, 86, 87] : List Nat).all z_chk = true := by decide +kernel
theorem zk_11 : ([88, 89, 90, 91, 92, 93, 94, 95] : List Nat).all z_chk = true := by decide +kernel
theorem zk_12 : ([96, 97, 98, 99, 100, 101, 102, 103] : List Nat).all z_chk = true := by decide +kernel
