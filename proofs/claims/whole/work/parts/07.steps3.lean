section ZS
variable {p : Program} {l : Launch} {e : Env} {R : Room} {s : State} {m : MethodId} {args : Array Value} {below : List Frame} {meth : Method} {c : Code} {Q : State → Prop}
variable {cc : ByteArray} {nL : Nat} {own : String} {D : va_G} {ca : Nat → ClassId} {ad : Int → Option Nat} {B n0 s0 : Nat}
variable {isI : Bool} {rt : Option FieldType} {pc n : Nat} {ll st : List zV} {σ : zS} {g g2 g3 : Int} {q : List (Int × Int)}
theorem z_eq64 {x y : Int} (hx : z_i64 x) (hy : z_i64 y) : Int64.ofInt x = Int64.ofInt y ↔ x = y := by
  rw [← Int64.toInt_inj, z_t64i hx, z_t64i hy]
theorem z_lt64 {x y : Int} (hx : z_i64 x) (hy : z_i64 y) : Int64.ofInt x < Int64.ofInt y ↔ x < y := by
  rw [Int64.lt_iff_toInt_lt, z_t64i hx, z_t64i hy]
theorem z_i64_0 : z_i64 0 := by unfold z_i64; omega
theorem z_lalu_ok {k x y z : Int} (h : z_lalu k x y = some z) : z_i64 z := by
  unfold z_lalu at h
  repeat' split at h
  all_goals first | (cases h; done) | (cases h; exact z_W_in _)
theorem zs_5c {x y : Int} (C : z_C p s m args c cc nL own D ca ad B n0) (hg : z_good own isI rt cc pc (5, n, 4, g, g2, q) = true) (k : z_G p l e R s m args below meth c Q nL D ca ad B n0 s0 n ll ((0, z_cmp x y) :: st) σ) : z_G p l e R s m args below meth c Q nL D ca ad B n0 s0 pc ll ((1, y) :: (1, x) :: st) σ := by
  obtain ⟨hd, hxx⟩ := z_good_inv hg
  intro H locs ls hH hS hL hst h1 h2
  simp only [z_ins] at hd
  simp only [z_xtr, decide_eq_true_eq] at hxx
  obtain ⟨rfl, hk0, hk6⟩ := hxx
  obtain ⟨hy, hst⟩ := List.forall_mem_cons.mp hst
  obtain ⟨hx, hst⟩ := List.forall_mem_cons.mp hst
  have hx := hx.2 rfl
  have hy := hy.2 rfl
  have hok : z_i32 (z_cmp x y) := by
    unfold z_cmp z_i32
    split
    · omega
    · split <;> omega
  have kk := k H locs ls hH hS hL (z_all1 (z_okI hok) hst) h1 h2
  simp only [List.map_cons, z_cv0, z_cv1] at kk ⊢
  have e : lg_cmp (Int64.ofInt x) (Int64.ofInt y) = Int32.ofInt (z_cmp x y) := by
    unfold lg_cmp z_cmp
    simp only [gt_iff_lt, z_lt64 hy hx, z_eq64 hx hy]
    split
    · rfl
    · split <;> rfl
  refine W.lcmp C.1 C.2.1 hd ?_
  rw [e]
  exact kk
theorem zs_5 {kc x y z : Int} (C : z_C p s m args c cc nL own D ca ad B n0) (hg : z_good own isI rt cc pc (5, n, kc, g, g2, q) = true) (hz : z_lalu kc x y = some z) (h4 : ¬ kc = 4) (k : z_G p l e R s m args below meth c Q nL D ca ad B n0 s0 n ll ((1, z) :: st) σ) : z_G p l e R s m args below meth c Q nL D ca ad B n0 s0 pc ll ((1, y) :: (1, x) :: st) σ := by
  obtain ⟨hd, hxx⟩ := z_good_inv hg
  intro H locs ls hH hS hL hst h1 h2
  simp only [z_ins] at hd
  simp only [z_xtr, decide_eq_true_eq] at hxx
  obtain ⟨rfl, hk0, hk6⟩ := hxx
  obtain ⟨hy, hst⟩ := List.forall_mem_cons.mp hst
  obtain ⟨hx, hst⟩ := List.forall_mem_cons.mp hst
  have hx := hx.2 rfl
  have hy := hy.2 rfl
  have kk := k H locs ls hH hS hL (z_all1 (z_okL (z_lalu_ok hz)) hst) h1 h2
  simp only [List.map_cons, z_cv1] at kk ⊢
  have hc : kc = 0 ∨ kc = 1 ∨ kc = 2 ∨ kc = 3 := by omega
  rcases hc with rfl | rfl | rfl | rfl
  · cases hz
    rw [z_o64, Int64.ofInt_add] at kk
    exact lv_ladd C.1 C.2.1 hd kk
  · cases hz
    rw [z_o64, Int64.ofInt_sub] at kk
    exact lv_lsub C.1 C.2.1 hd kk
  · cases hz
    rw [z_o64, Int64.ofInt_mul] at kk
    exact lv_lmul C.1 C.2.1 hd kk
  · have hz : (if y = 0 then none else some (z_W (x.tdiv y))) = some z := hz
    by_cases hy0 : y = 0
    · rw [if_pos hy0] at hz; cases hz
    · rw [if_neg hy0] at hz
      cases hz
      refine lv_ldiv C.1 C.2.1 hd (fun h => hy0 ((z_eq64 hy z_i64_0).mp h)) ?_
      have e : Int64.ofInt x / Int64.ofInt y = Int64.ofInt (z_W (x.tdiv y)) := by
        apply Int64.toInt_inj.mp
        rw [Int64.toInt_div, z_t64i hx, z_t64i hy, z_t64, z_W_id (z_W_in _)]
        unfold z_W Int.bmod
        simp only [Int64.size]
        split <;> omega
      rw [e]
      exact kk
theorem zs_6a {x : Int} (C : z_C p s m args c cc nL own D ca ad B n0) (hg : z_good own isI rt cc pc (6, n, 0, g, g2, q) = true) (k : z_G p l e R s m args below meth c Q nL D ca ad B n0 s0 n ll ((1, x) :: st) σ) : z_G p l e R s m args below meth c Q nL D ca ad B n0 s0 pc ll ((0, x) :: st) σ := by
  obtain ⟨hd, hxx⟩ := z_good_inv hg
  intro H locs ls hH hS hL hst h1 h2
  simp only [z_ins] at hd
  simp only [z_xtr, decide_eq_true_eq] at hxx
  obtain ⟨rfl, hk0, hk6⟩ := hxx
  obtain ⟨hx, hst⟩ := List.forall_mem_cons.mp hst
  have hx := hx.1 rfl
  have kk := k H locs ls hH hS hL (z_all1 (z_okL (z_i32_64 hx)) hst) h1 h2
  exact lv_i2l C.1 C.2.1 hd (Int64.toInt_inj.mp (by rw [Int32.toInt_toInt64, z_t32i hx, z_t64i (z_i32_64 hx)])) kk
theorem zs_6b {x : Int} (C : z_C p s m args c cc nL own D ca ad B n0) (hg : z_good own isI rt cc pc (6, n, 1, g, g2, q) = true) (k : z_G p l e R s m args below meth c Q nL D ca ad B n0 s0 n ll ((0, z_w x) :: st) σ) : z_G p l e R s m args below meth c Q nL D ca ad B n0 s0 pc ll ((1, x) :: st) σ := by
  obtain ⟨hd, hxx⟩ := z_good_inv hg
  intro H locs ls hH hS hL hst h1 h2
  simp only [z_ins] at hd
  simp only [z_xtr, decide_eq_true_eq] at hxx
  obtain ⟨rfl, hk0, hk6⟩ := hxx
  obtain ⟨hx, hst⟩ := List.forall_mem_cons.mp hst
  have hx := hx.2 rfl
  have kk := k H locs ls hH hS hL (z_all1 (z_okI (z_w_in _)) hst) h1 h2
  refine lv_l2i C.1 C.2.1 hd (Int32.toInt_inj.mp ?_) kk
  rw [Int64.toInt_toInt32, z_t64i hx, z_t32i (z_w_in _)]
  show Int.bmod x 4294967296 = z_w x
  unfold z_w Int.bmod
  dsimp only
  split <;> omega
theorem zs_7 {v : zV} (C : z_C p s m args c cc nL own D ca ad B n0) (hg : z_good own isI rt cc pc (7, n, g3, g, g2, q) = true) (hv : v.1 = 0 ∨ v.1 = 2) (k : z_G p l e R s m args below meth c Q nL D ca ad B n0 s0 n ll (v :: v :: st) σ) : z_G p l e R s m args below meth c Q nL D ca ad B n0 s0 pc ll (v :: st) σ := by
  obtain ⟨hd, hxx⟩ := z_good_inv hg
  intro H locs ls hH hS hL hst h1 h2
  simp only [z_ins] at hd
  simp only [z_xtr, decide_eq_true_eq] at hxx
  subst hxx
  obtain ⟨hx, -⟩ := List.forall_mem_cons.mp hst
  exact lv_dup C.1 C.2.1 hd (z_cat hv) (k H locs ls hH hS hL (z_all1 hx hst) h1 h2)
theorem zs_8 {v : zV} (C : z_C p s m args c cc nL own D ca ad B n0) (hg : z_good own isI rt cc pc (8, n, g3, g, g2, q) = true) (hv : v.1 = 0 ∨ v.1 = 2) (k : z_G p l e R s m args below meth c Q nL D ca ad B n0 s0 n ll st σ) : z_G p l e R s m args below meth c Q nL D ca ad B n0 s0 pc ll (v :: st) σ := by
  obtain ⟨hd, hxx⟩ := z_good_inv hg
  intro H locs ls hH hS hL hst h1 h2
  simp only [z_ins] at hd
  simp only [z_xtr, decide_eq_true_eq] at hxx
  subst hxx
  obtain ⟨-, hst⟩ := List.forall_mem_cons.mp hst
  exact lv_pop C.1 C.2.1 hd (z_cat hv) (k H locs ls hH hS hL hst h1 h2)
theorem zs_9 {v w : zV} (C : z_C p s m args c cc nL own D ca ad B n0) (hg : z_good own isI rt cc pc (9, n, g3, g, g2, q) = true) (hv : (v.1 = 0 ∨ v.1 = 2) ∧ (w.1 = 0 ∨ w.1 = 2)) (k : z_G p l e R s m args below meth c Q nL D ca ad B n0 s0 n ll (v :: w :: v :: w :: st) σ) : z_G p l e R s m args below meth c Q nL D ca ad B n0 s0 pc ll (v :: w :: st) σ := by
  obtain ⟨hd, hxx⟩ := z_good_inv hg
  intro H locs ls hH hS hL hst h1 h2
  simp only [z_ins] at hd
  simp only [z_xtr, decide_eq_true_eq] at hxx
  subst hxx
  obtain ⟨hx, hs⟩ := List.forall_mem_cons.mp hst
  obtain ⟨hy, -⟩ := List.forall_mem_cons.mp hs
  exact lv_dup2_11 C.1 C.2.1 hd (z_cat hv.1) (z_cat hv.2) (k H locs ls hH hS hL (z_all1 hx (z_all1 hy hst)) h1 h2)
theorem z_tgt {t : Int} (h : 0 ≤ t) : (pc : Int) + (t - (pc : Int)) = ((t.toNat : Nat) : Int) := by omega
theorem zs_10 {kc t x : Int} (C : z_C p s m args c cc nL own D ca ad B n0) (hg : z_good own isI rt cc pc (10, n, kc, t, g2, q) = true) (k : z_G p l e R s m args below meth c Q nL D ca ad B n0 s0 (if z_cnd kc x 0 then t.toNat else n) ll st σ) : z_G p l e R s m args below meth c Q nL D ca ad B n0 s0 pc ll ((0, x) :: st) σ := by
  obtain ⟨hd, hxx⟩ := z_good_inv hg
  intro H locs ls hH hS hL hst h1 h2
  simp only [z_ins] at hd
  simp only [z_xtr, decide_eq_true_eq] at hxx
  obtain ⟨rfl, ht, hk0, hk6⟩ := hxx
  obtain ⟨hx, hst⟩ := List.forall_mem_cons.mp hst
  have hx := hx.1 rfl
  have kk := k H locs ls hH hS hL hst h1 h2
  have h0 := z_i32_0
  have hc : kc = 0 ∨ kc = 1 ∨ kc = 2 ∨ kc = 3 ∨ kc = 4 ∨ kc = 5 := by omega
  rcases hc with rfl | rfl | rfl | rfl | rfl | rfl
  · exact lv_if_eq C.1 C.2.1 hd (z_tgt ht) (fun h => by rw [show z_cnd 0 x 0 = true from decide_eq_true ((z_eq32 hx h0).mp h)] at kk; exact kk) (fun h => by rw [show z_cnd 0 x 0 = false from decide_eq_false (fun z => h ((z_eq32 hx h0).mpr z))] at kk; exact kk)
  · exact lv_if_ne C.1 C.2.1 hd (z_tgt ht) (fun h => by rw [show z_cnd 1 x 0 = true from decide_eq_true (fun z => h ((z_eq32 hx h0).mpr z))] at kk; exact kk) (fun h => by rw [show z_cnd 1 x 0 = false from decide_eq_false (fun z => z ((z_eq32 hx h0).mp h))] at kk; exact kk)
  · exact lv_if_lt C.1 C.2.1 hd (z_tgt ht) (fun h => by rw [show z_cnd 2 x 0 = true from decide_eq_true ((z_lt32 hx h0).mp h)] at kk; exact kk) (fun h => by rw [show z_cnd 2 x 0 = false from decide_eq_false (fun z => h ((z_lt32 hx h0).mpr z))] at kk; exact kk)
  · exact lv_if_ge C.1 C.2.1 hd (z_tgt ht) (fun h => by rw [show z_cnd 3 x 0 = true from decide_eq_true ((z_le32 h0 hx).mp h)] at kk; exact kk) (fun h => by rw [show z_cnd 3 x 0 = false from decide_eq_false (fun z => h ((z_le32 h0 hx).mpr z))] at kk; exact kk)
  · exact lv_if_gt C.1 C.2.1 hd (z_tgt ht) (fun h => by rw [show z_cnd 4 x 0 = true from decide_eq_true ((z_lt32 h0 hx).mp h)] at kk; exact kk) (fun h => by rw [show z_cnd 4 x 0 = false from decide_eq_false (fun z => h ((z_lt32 h0 hx).mpr z))] at kk; exact kk)
  · exact lv_if_le C.1 C.2.1 hd (z_tgt ht) (fun h => by rw [show z_cnd 5 x 0 = true from decide_eq_true ((z_le32 hx h0).mp h)] at kk; exact kk) (fun h => by rw [show z_cnd 5 x 0 = false from decide_eq_false (fun z => h ((z_le32 hx h0).mpr z))] at kk; exact kk)
theorem zs_11 {kc t x y : Int} (C : z_C p s m args c cc nL own D ca ad B n0) (hg : z_good own isI rt cc pc (11, n, kc, t, g2, q) = true) (k : z_G p l e R s m args below meth c Q nL D ca ad B n0 s0 (if z_cnd kc x y then t.toNat else n) ll st σ) : z_G p l e R s m args below meth c Q nL D ca ad B n0 s0 pc ll ((0, y) :: (0, x) :: st) σ := by
  obtain ⟨hd, hxx⟩ := z_good_inv hg
  intro H locs ls hH hS hL hst h1 h2
  simp only [z_ins] at hd
  simp only [z_xtr, decide_eq_true_eq] at hxx
  obtain ⟨rfl, ht, hk0, hk6⟩ := hxx
  obtain ⟨hy, hst⟩ := List.forall_mem_cons.mp hst
  obtain ⟨hx, hst⟩ := List.forall_mem_cons.mp hst
  have hx := hx.1 rfl
  have h0 := hy.1 rfl
  have kk := k H locs ls hH hS hL hst h1 h2
  have hc : kc = 0 ∨ kc = 1 ∨ kc = 2 ∨ kc = 3 ∨ kc = 4 ∨ kc = 5 := by omega
  rcases hc with rfl | rfl | rfl | rfl | rfl | rfl
  · exact lv_icmp_eq C.1 C.2.1 hd (z_tgt ht) (fun h => by rw [show z_cnd 0 x y = true from decide_eq_true ((z_eq32 hx h0).mp h)] at kk; exact kk) (fun h => by rw [show z_cnd 0 x y = false from decide_eq_false (fun z => h ((z_eq32 hx h0).mpr z))] at kk; exact kk)
  · exact lv_icmp_ne C.1 C.2.1 hd (z_tgt ht) (fun h => by rw [show z_cnd 1 x y = true from decide_eq_true (fun z => h ((z_eq32 hx h0).mpr z))] at kk; exact kk) (fun h => by rw [show z_cnd 1 x y = false from decide_eq_false (fun z => z ((z_eq32 hx h0).mp h))] at kk; exact kk)
  · exact lv_icmp_lt C.1 C.2.1 hd (z_tgt ht) (fun h => by rw [show z_cnd 2 x y = true from decide_eq_true ((z_lt32 hx h0).mp h)] at kk; exact kk) (fun h => by rw [show z_cnd 2 x y = false from decide_eq_false (fun z => h ((z_lt32 hx h0).mpr z))] at kk; exact kk)
  · exact lv_icmp_ge C.1 C.2.1 hd (z_tgt ht) (fun h => by rw [show z_cnd 3 x y = true from decide_eq_true ((z_le32 h0 hx).mp h)] at kk; exact kk) (fun h => by rw [show z_cnd 3 x y = false from decide_eq_false (fun z => h ((z_le32 h0 hx).mpr z))] at kk; exact kk)
  · exact lv_icmp_gt C.1 C.2.1 hd (z_tgt ht) (fun h => by rw [show z_cnd 4 x y = true from decide_eq_true ((z_lt32 h0 hx).mp h)] at kk; exact kk) (fun h => by rw [show z_cnd 4 x y = false from decide_eq_false (fun z => h ((z_lt32 h0 hx).mpr z))] at kk; exact kk)
  · exact lv_icmp_le C.1 C.2.1 hd (z_tgt ht) (fun h => by rw [show z_cnd 5 x y = true from decide_eq_true ((z_le32 hx h0).mp h)] at kk; exact kk) (fun h => by rw [show z_cnd 5 x y = false from decide_eq_false (fun z => h ((z_le32 hx h0).mpr z))] at kk; exact kk)
theorem zs_12 {t : Int} (C : z_C p s m args c cc nL own D ca ad B n0) (hg : z_good own isI rt cc pc (12, n, t, g, g2, q) = true) (k : z_G p l e R s m args below meth c Q nL D ca ad B n0 s0 t.toNat ll st σ) : z_G p l e R s m args below meth c Q nL D ca ad B n0 s0 pc ll st σ := by
  obtain ⟨hd, hxx⟩ := z_good_inv hg
  intro H locs ls hH hS hL hst h1 h2
  simp only [z_ins] at hd
  simp only [z_xtr, decide_eq_true_eq] at hxx
  exact lv_goto C.1 C.2.1 hd (z_tgt hxx) (k H locs ls hH hS hL hst h1 h2)
/-- a table of switch targets, found -/
theorem z_sw_at {d x : Int} : ∀ (q : List (Int × Int)) (lo : Int), q.map (fun r => r.1) = (List.range q.length).map (fun (j : Nat) => lo + (j : Int)) → ∀ j : Nat, x = lo + (j : Int) → j < q.length → ∃ r : Int × Int, q[j]? = some r ∧ z_sw d x q = r.2
  | [], _, _, j, _, h => absurd h (Nat.not_lt_zero j)
  | r :: q, lo, h, j, hx, hj => by
    have hr : r.1 = lo := by
      have := congrArg List.head? h
      simpa [List.range_succ_eq_map] using this
    cases j with
    | zero =>
      refine ⟨r, rfl, ?_⟩
      unfold z_sw
      rw [if_pos (by rw [hx, hr]; simp)]
    | succ j =>
      have h' : q.map (fun r => r.1) = (List.range q.length).map (fun (j : Nat) => (lo + 1) + (j : Int)) := by
        have := congrArg List.tail h
        simp only [List.map_cons, List.tail_cons, List.length_cons, List.range_succ_eq_map, List.map_map] at this
        rw [this]
        apply List.map_congr_left
        intro a _
        simp only [Function.comp]
        omega
      obtain ⟨r', h1, h2⟩ := z_sw_at (d := d) (x := x) q (lo + 1) h' j (by rw [hx]; omega) (by simpa using hj)
      refine ⟨r', by simpa using h1, ?_⟩
      unfold z_sw
      rw [if_neg (by rw [hx, hr]; omega)]
      exact h2
theorem z_sw_out {d x : Int} : ∀ (q : List (Int × Int)), (∀ r ∈ q, ¬ x = r.1) → z_sw d x q = d
  | [], _ => rfl
  | r :: q, h => by
    unfold z_sw
    rw [if_neg (h r List.mem_cons_self)]
    exact z_sw_out q (fun r' h' => h r' (List.mem_cons_of_mem _ h'))
theorem zs_13 {d lo hi x : Int} (C : z_C p s m args c cc nL own D ca ad B n0) (hg : z_good own isI rt cc pc (13, n, d, lo, hi, q) = true) (k : z_G p l e R s m args below meth c Q nL D ca ad B n0 s0 (z_sw d x q).toNat ll st σ) : z_G p l e R s m args below meth c Q nL D ca ad B n0 s0 pc ll ((0, x) :: st) σ := by
  obtain ⟨hd, hxx⟩ := z_good_inv hg
  intro H locs ls hH hS hL hst h1 h2
  simp only [z_ins] at hd
  simp only [z_xtr, Bool.and_eq_true, decide_eq_true_eq] at hxx
  obtain ⟨⟨⟨hd0, hlen⟩, hq⟩, hall⟩ := hxx
  obtain ⟨hx, hst⟩ := List.forall_mem_cons.mp hst
  have hx := hx.1 rfl
  have kk := k H locs ls hH hS hL hst h1 h2
  by_cases hin : x < lo ∨ hi < x
  · rw [z_sw_out q (fun r hr e => by
      have h3 : r.1 ∈ q.map (fun r => r.1) := List.mem_map.mpr ⟨r, hr, rfl⟩
      rw [hq] at h3
      obtain ⟨j, hj, ej⟩ := List.mem_map.mp h3
      have := List.mem_range.mp hj
      omega)] at kk
    exact lv_tableOut C.1 C.2.1 hd (by rw [z_t32i hx]; exact hin) (z_tgt hd0) kk
  · have hj : (x - lo).toNat < q.length := by omega
    obtain ⟨r, hr1, hr2⟩ := z_sw_at (d := d) (x := x) q lo hq (x - lo).toNat (by omega) hj
    rw [hr2] at kk
    have hr0 : 0 ≤ r.2 := by
      have := List.all_eq_true.mp hall r (List.mem_of_getElem? hr1)
      simpa using this
    refine lv_tableIn (off := r.2 - (pc : Int)) C.1 C.2.1 hd (by rw [z_t32i hx]; omega) (by rw [z_t32i hx]; omega) ?_ (z_tgt hr0) kk
    rw [z_t32i hx]
    simp [hr1]
end ZS
