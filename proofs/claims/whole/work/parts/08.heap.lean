/-! places of the words of the fields, class by class (written by wip/whole/src/gen.py) -/
def z_lp0 : List Int := [1032, 1034, 1036]
theorem z_lay0 : (List.range 3).all (fun k => z_wd (z_lp0.getD k 0) (u_lay RX0 TX0 k)) = true := by decide +kernel
def z_lp1 : List Int := [1052, 1054, 1056]
theorem z_lay1 : (List.range 3).all (fun k => z_wd (z_lp1.getD k 0) (u_lay RX1 TX1 k)) = true := by decide +kernel
def z_lp2 : List Int := [1200, 1202, 1204, 1206, 1208, 1210, 1212, 1214, 1216, 1218, 1220, 1222, 1224, 1226, 1228, 1230, 1232, 1234]
theorem z_lay2 : (List.range 18).all (fun k => z_wd (z_lp2.getD k 0) (u_lay RX2 TX2 k)) = true := by decide +kernel
def z_lp3 : List Int := [1149, 1151, 1153, 1155, 1157, 1159, 1161, 1163, 1165, 1167, 1169, 1171, 1173]
theorem z_lay3 : (List.range 13).all (fun k => z_wd (z_lp3.getD k 0) (u_lay RX3 TX3 k)) = true := by decide +kernel
def z_lp4 : List Int := [1072, 1074, 1076, 1078, 1080, 1082, 1084]
theorem z_lay4 : (List.range 7).all (fun k => z_wd (z_lp4.getD k 0) (u_lay RX4 TX4 k)) = true := by decide +kernel
def z_lp5 : List Int := [1105, 1107, 1109, 1111, 1113, 1115, 1117, 1119, 1121, 1123, 1125, 1127]
theorem z_lay5 : (List.range 12).all (fun k => z_wd (z_lp5.getD k 0) (u_lay RX5 TX5 k)) = true := by decide +kernel
def z_lp6 : List Int := [2007, 2009, 2011]
theorem z_lay6 : (List.range 3).all (fun k => z_wd (z_lp6.getD k 0) (u_lay RX6 TX6 k)) = true := by decide +kernel
def z_lp7 : List Int := [2178, 2180, 2182, 2184, 2186, 2188, 2190, 2192, 2194, 2196, 2198]
theorem z_lay7 : (List.range 11).all (fun k => z_wd (z_lp7.getD k 0) (u_lay RX7 TX7 k)) = true := by decide +kernel
def z_lp8 : List Int := [6103, 6105, 6107, 6109, 6111, 6113, 6115, 6117, 6119, 6121, 6123, 6125, 6127, 6129, 6131, 6133, 6135, 6137, 6139, 6141, 6143, 6145, 6147, 6149, 6151, 6153, 6155, 6157, 6159, 6161, 6163, 6165, 6167, 6169, 6171, 6173, 6175, 6177, 6179, 6181, 6183, 6185, 6187, 6189, 6191, 6193, 6195, 6197, 6199, 6201, 6203, 6205, 6207, 6209, 6211, 6213, 6215, 6217, 6219, 6221, 6223, 6225, 6227, 6229, 6231, 6233, 6235, 6237, 6239, 7001]
theorem z_lay8 : (List.range 70).all (fun k => z_wd (z_lp8.getD k 0) (u_lay RX8 TX8 k)) = true := by decide +kernel
theorem z_cls_in {C : String} {F : u_T} {N : Nat} {pl : List Int} (h : (List.range N).all (fun k => z_wd (pl.getD k 0) (u_lay C F k)) = true) : ∀ w ∈ u_ws C F N, w ∈ z_T := by
  intro w hw
  obtain ⟨k, hk, rfl⟩ := List.mem_map.mp hw
  exact z_wd_in (List.all_eq_true.mp h k hk)
theorem z_cls {ci : Int} (h0 : 0 ≤ ci) (h9 : ci < 9) : vwCl[ci.toNat]? = some (z_cl ci) ∧ (∀ w ∈ u_ws (z_cl ci).1 (z_cl ci).2.1 (z_cl ci).2.2, w ∈ z_T) ∧
    (∀ k, k < (z_cl ci).2.2 → parseFieldDescriptor ((z_cl ci).2.1 k).2.2.1 = some (z_tyF ci.toNat k)) ∧ (∀ a, a < (z_cl ci).2.2 → ∀ b, b < (z_cl ci).2.2 → a ≠ b → ((z_cl ci).2.1 a).2.1 ≠ ((z_cl ci).2.1 b).2.1) ∧ (z_cl ci).2.2 = z_N ci.toNat := by
  have hc : ci = 0 ∨ ci = 1 ∨ ci = 2 ∨ ci = 3 ∨ ci = 4 ∨ ci = 5 ∨ ci = 6 ∨ ci = 7 ∨ ci = 8 := by omega
  rcases hc with rfl | rfl | rfl | rfl | rfl | rfl | rfl | rfl | rfl
  · exact ⟨rfl, z_cls_in z_lay0, tyX0_ok, nmX0, rfl⟩
  · exact ⟨rfl, z_cls_in z_lay1, tyX1_ok, nmX1, rfl⟩
  · exact ⟨rfl, z_cls_in z_lay2, tyX2_ok, nmX2, rfl⟩
  · exact ⟨rfl, z_cls_in z_lay3, tyX3_ok, nmX3, rfl⟩
  · exact ⟨rfl, z_cls_in z_lay4, tyX4_ok, nmX4, rfl⟩
  · exact ⟨rfl, z_cls_in z_lay5, tyX5_ok, nmX5, rfl⟩
  · exact ⟨rfl, z_cls_in z_lay6, tyX6_ok, nmX6, rfl⟩
  · exact ⟨rfl, z_cls_in z_lay7, tyX7_ok, nmX7, rfl⟩
  · exact ⟨rfl, z_cls_in z_lay8, tyX8_ok, nmX8, rfl⟩
section ZS
variable {p : Program} {l : Launch} {e : Env} {R : Room} {s : State} {m : MethodId} {args : Array Value} {below : List Frame} {meth : Method} {c : Code} {Q : State → Prop}
variable {cc : ByteArray} {nL : Nat} {own : String} {D : va_G} {ca : Nat → ClassId} {ad : Int → Option Nat} {B n0 s0 : Nat}
variable {isI : Bool} {rt : Option FieldType} {pc n : Nat} {ll st : List zV} {σ : zS} {g g2 g3 : Int} {q : List (Int × Int)}
theorem zs_14 {d x : Int} (C : z_C p s m args c cc nL own D ca ad B n0) (hg : z_good own isI rt cc pc (14, n, d, g, g2, q) = true) (k : z_G p l e R s m args below meth c Q nL D ca ad B n0 s0 (z_sw d x q).toNat ll st σ) : z_G p l e R s m args below meth c Q nL D ca ad B n0 s0 pc ll ((0, x) :: st) σ := by
  obtain ⟨hd, hxx⟩ := z_good_inv hg
  intro H locs ls hH hS hL hst h1 h2
  simp only [z_ins] at hd
  simp only [z_xtr, Bool.and_eq_true, decide_eq_true_eq] at hxx
  obtain ⟨⟨hd0, hsort⟩, hall⟩ := hxx
  obtain ⟨hx, hst⟩ := List.forall_mem_cons.mp hst
  have hx := hx.1 rfl
  have kk := k H locs ls hH hS hL hst h1 h2
  have hoff : ∀ q : List (Int × Int), q.all (fun r => decide (0 ≤ r.2)) = true → Op.lookupswitch.offset (q.map (fun r => (r.1, r.2 - (pc : Int)))) (d - (pc : Int)) x = z_sw d x q - (pc : Int) ∧ 0 ≤ z_sw d x q := by
    intro q
    induction q with
    | nil => intro _; exact ⟨rfl, hd0⟩
    | cons r q ih =>
      intro hq
      rw [List.all_cons, Bool.and_eq_true, decide_eq_true_eq] at hq
      obtain ⟨i1, i2⟩ := ih hq.2
      rw [List.map_cons, Op.lookupswitch.offset_cons]
      unfold z_sw
      by_cases e : r.1 = x
      · rw [if_pos e, if_pos e.symm]
        exact ⟨rfl, hq.1⟩
      · rw [if_neg e, if_neg (fun z => e z.symm)]
        exact ⟨i1, i2⟩
  obtain ⟨o1, o2⟩ := hoff q hall
  refine lv_lookup (off := z_sw d x q - (pc : Int)) C.1 C.2.1 hd (by simpa using hsort) ?_ (z_tgt o2) kk
  rw [z_t32i hx]
  exact o1
theorem zs_24 {x i : Int} (C : z_C p s m args c cc nL own D ca ad B n0) (hg : z_good own isI rt cc pc (24, n, x, i, g, q) = true) (k : z_G p l e R s m args below meth c Q nL D ca ad B n0 s0 n ll ((1, x) :: st) σ) : z_G p l e R s m args below meth c Q nL D ca ad B n0 s0 pc ll st σ := by
  obtain ⟨hd, hxx⟩ := z_good_inv hg
  intro H locs ls hH hS hL hst h1 h2
  simp only [z_ins] at hd
  simp only [z_xtr] at hxx
  by_cases i0 : i = 0
  · simp only [i0, if_true, decide_eq_true_eq] at hd hxx
    obtain ⟨rfl, x0, x1⟩ := hxx
    have h64 : z_i64 x := by unfold z_i64; omega
    refine lv_lconst C.1 C.2.1 hd ?_ (k H locs ls hH hS hL (z_all1 (z_okL h64) hst) h1 h2)
    have hc : x = 0 ∨ x = 1 := by omega
    rcases hc with rfl | rfl <;> rfl
  · simp only [i0, if_false, Bool.and_eq_true, decide_eq_true_eq] at hd hxx
    obtain ⟨⟨rfl, hx⟩, hw⟩ := hxx
    have h64 : z_i64 x := by rw [← hx]; exact z_W_in x
    split at hw
    · exact lv_ldc2 C.1 C.2.1 C.2.2.2.1 (C.2.2.2.2.1 _ (z_wd_in hw)) hd (k H locs ls hH hS hL (z_all1 (z_okL h64) hst) h1 h2)
    · cases hw
theorem z_sum4 : ∀ (st : List zV), ((st.map (z_cv ad)).map fun v => v.category).sum ≤ 2 * st.length
  | [] => Nat.le_refl _
  | v :: st => by
    have := z_sum4 st
    have hc := lv_cat (z_cv ad v)
    simp only [List.map_cons, List.sum_cons, List.length_cons]
    omega
theorem zs_28 {kc i x y : Int} (C : z_C p s m args c cc nL own D ca ad B n0) (hR : 1 ≤ R.frames ∧ 32 ≤ R.locals) (hcap : σ.1 - n0 ≤ R.cells ∧ σ.2.1 - s0 ≤ R.slots) (hg : z_good own isI rt cc pc (28, n, kc, i, g, q) = true) (h4 : st.length ≤ 4) (k : z_G p l e R s m args below meth c Q nL D ca ad B n0 s0 n ll ((0, if kc = 0 then (if x < y then y else x) else (if y < x then y else x)) :: st) σ) : z_G p l e R s m args below meth c Q nL D ca ad B n0 s0 pc ll ((0, y) :: (0, x) :: st) σ := by
  obtain ⟨hd, hxx⟩ := z_good_inv hg
  intro H locs ls hH hS hL hst h1 h2
  simp only [z_ins] at hd
  simp only [z_xtr, Bool.and_eq_true, decide_eq_true_eq] at hxx
  obtain ⟨⟨rfl, hk0, hk1⟩, hw⟩ := hxx
  obtain ⟨hy, hst⟩ := List.forall_mem_cons.mp hst
  obtain ⟨hx, hst⟩ := List.forall_mem_cons.mp hst
  have hx := hx.1 rfl
  have hy := hy.1 rfl
  have hsum := z_sum4 (ad := ad) st
  have hts := C.2.2.2.2.1
  split at hw
  · rename_i p1 p2 p3 p4
    simp only [Bool.and_eq_true] at hw
    obtain ⟨hini, hw⟩ := hw
    have hc : kc = 0 ∨ kc = 1 := by omega
    rcases hc with rfl | rfl
    · simp only [if_true, Bool.and_eq_true] at hw k
      obtain ⟨⟨a1, a2⟩, a3⟩ := hw
      have kk := k H locs ls hH hS hL (z_all1 (z_okI (by split <;> assumption)) hst) h1 h2
      refine va_mmax C.1 C.2.1 (by rw [C.2.2.1, hL.1]) C.2.2.2.1 (hts _ (z_wd_in a1)) (hts _ (z_wd_in a2)) (hts _ (z_wd_in hini)) (hts _ (z_wd_in a3)) hR.1 (by omega) hcap.1 hcap.2 hd ?_
      have e : (if Int32.ofInt x < Int32.ofInt y then Int32.ofInt y else Int32.ofInt x) = Int32.ofInt (if x < y then y else x) := by
        by_cases h : x < y
        · rw [if_pos h, if_pos ((z_lt32 hx hy).mpr h)]
        · rw [if_neg h, if_neg (fun z => h ((z_lt32 hx hy).mp z))]
      rw [e]
      exact kk
    · simp only [show ¬ (1 : Int) = 0 by decide, if_false, Bool.and_eq_true] at hw k
      obtain ⟨⟨a1, a2⟩, a3⟩ := hw
      have kk := k H locs ls hH hS hL (z_all1 (z_okI (by split <;> assumption)) hst) h1 h2
      refine va_mmin C.1 C.2.1 (by rw [C.2.2.1, hL.1]) C.2.2.2.1 (hts _ (z_wd_in a1)) (hts _ (z_wd_in a2)) (hts _ (z_wd_in hini)) (hts _ (z_wd_in a3)) hR.1 (by omega) hcap.1 hcap.2 hd ?_
      have e : (if Int32.ofInt y < Int32.ofInt x then Int32.ofInt y else Int32.ofInt x) = Int32.ofInt (if y < x then y else x) := by
        by_cases h : y < x
        · rw [if_pos h, if_pos ((z_lt32 hy hx).mpr h)]
        · rw [if_neg h, if_neg (fun z => h ((z_lt32 hy hx).mp z))]
      rw [e]
      exact kk
  · cases hw
end ZS
