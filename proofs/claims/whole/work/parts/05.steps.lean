/-! THE SMALL MACHINE'S INSTRUCTIONS, each by the kit's row -/
/-- the instruction that an entry of the table stands for -/
def z_ins (o : zO) (pc : Nat) : Jvm.ClassFile.Instr × Nat := match o with
  | (0, _, x, f, _, _) => if f = 0 then (.iconst x, 1) else if f = 1 then (.bipush x, 2) else (.sipush x, 3)
  | (1, _, i, t, f, _) => if t = 0 then (if f = 0 then (.iload_n (Fin.ofNat 4 i.toNat), 1) else (.iload i.toNat, 2)) else if t = 1 then (if f = 0 then (.lload_n (Fin.ofNat 4 i.toNat), 1) else (.lload i.toNat, 2)) else (if f = 0 then (.aload_n (Fin.ofNat 4 i.toNat), 1) else (.aload i.toNat, 2))
  | (2, _, i, t, f, _) => if t = 0 then (if f = 0 then (.istore_n (Fin.ofNat 4 i.toNat), 1) else (.istore i.toNat, 2)) else if t = 1 then (if f = 0 then (.lstore_n (Fin.ofNat 4 i.toNat), 1) else (.lstore i.toNat, 2)) else (if f = 0 then (.astore_n (Fin.ofNat 4 i.toNat), 1) else (.astore i.toNat, 2))
  | (3, _, i, k, _, _) => (.iinc i.toNat k, 3)
  | (4, _, k, _, _, _) => (if k = 0 then .iadd else if k = 1 then .isub else if k = 2 then .imul else if k = 3 then .iand else if k = 4 then .ishr else if k = 5 then .iushr else .idiv, 1)
  | (5, _, k, _, _, _) => (if k = 0 then .ladd else if k = 1 then .lsub else if k = 2 then .lmul else if k = 3 then .ldiv else .lcmp, 1)
  | (6, _, k, _, _, _) => (if k = 0 then .i2l else .l2i, 1)
  | (7, _, _, _, _, _) => (.dup, 1)
  | (8, _, _, _, _, _) => (.pop, 1)
  | (9, _, _, _, _, _) => (.dup2, 1)
  | (10, _, k, t, _, _) => (if k = 0 then .ifCond .eq (t - pc) else if k = 1 then .ifCond .ne (t - pc) else if k = 2 then .ifCond .lt (t - pc) else if k = 3 then .ifCond .ge (t - pc) else if k = 4 then .ifCond .gt (t - pc) else .ifCond .le (t - pc), 3)
  | (11, _, k, t, _, _) => (if k = 0 then .if_icmp .eq (t - pc) else if k = 1 then .if_icmp .ne (t - pc) else if k = 2 then .if_icmp .lt (t - pc) else if k = 3 then .if_icmp .ge (t - pc) else if k = 4 then .if_icmp .gt (t - pc) else .if_icmp .le (t - pc), 3)
  | (12, _, t, _, _, _) => (.goto (t - pc), 3)
  | (13, n, d, lo, hi, q) => (.tableswitch (d - pc) lo hi (q.map (fun r => r.2 - (pc : Int))).toArray, n)
  | (14, n, d, _, _, q) => (.lookupswitch (d - pc) (q.map (fun r => (r.1, r.2 - (pc : Int)))).toArray, n)
  | (15, _, _, _, _, (i, _) :: _) => (.getfield i.toNat, 3)
  | (16, _, _, _, _, (i, _) :: _) => (.putfield i.toNat, 3)
  | (17, _, kd, _, _, _) => (if kd = 9 then .iaload else if kd = 10 then .laload else if kd = 11 then .baload else .aaload, 1)
  | (18, _, kd, _, _, _) => (if kd = 9 then .iastore else if kd = 10 then .lastore else if kd = 11 then .bastore else .aastore, 1)
  | (19, _, _, _, _, _) => (.arraylength, 1)
  | (20, _, _, _, i, _) => (.new i.toNat, 3)
  | (21, _, kd, _, _, _) => (.newarray (if kd = 9 then .int else if kd = 10 then .long else .boolean), 2)
  | (22, _, i, _, _, _) => (.anewarray i.toNat, 3)
  | (23, _, i, _, _, _) => (.invokespecial i.toNat, 3)
  | (24, _, x, i, _, _) => if i = 0 then (.lconst (Fin.ofNat 2 x.toNat), 1) else (.ldc2_w i.toNat, 3)
  | (25, _, _, _, kd, (i, _) :: (f, _) :: _) => (if kd = -1 then .invokestatic i.toNat else if f = 1 then .invokespecial i.toNat else .invokevirtual i.toNat, 3)
  | (26, _, t, _, _, _) => (if t = 4 then .return_ else if t = 1 then .lreturn else if t = 2 then .areturn else .ireturn, 1)
  | (28, _, _, i, _, _) => (.invokestatic i.toNat, 3)
  | (29, _, _, i, _, _) => (.ldc i.toNat, 2)
  | (30, _, i, _, _, _) => (.invokevirtual i.toNat, 3)
  | (31, _, i, _, _, _) => (.invokevirtual i.toNat, 3)
  | _ => (.nop, 1)
def z_cl (ci : Int) : vw_C := vwCl.getD ci.toNat ("", TX0, 0)
/-- what else is asked of an entry: own: the class whose code it is; isI: is the method a constructor; rt: the type that it returns -/
def z_xtr (own : String) (isI : Bool) (rt : Option FieldType) (pc : Nat) (o : zO) : Bool := match o with
  | (0, n, x, f, _, _) => if f = 0 then decide (n = pc + 1 ∧ z_w x = x) else if f = 1 then decide (n = pc + 2 ∧ -128 ≤ x ∧ x < 128) else decide (n = pc + 3 ∧ -32768 ≤ x ∧ x < 32768)
  | (1, n, i, t, f, _) => decide (0 ≤ i ∧ 0 ≤ t ∧ t ≤ 2) && (if f = 0 then decide (n = pc + 1 ∧ i < 4) else decide (n = pc + 2))
  | (2, n, i, t, f, _) => decide (0 ≤ i ∧ 0 ≤ t ∧ t ≤ 2) && (if f = 0 then decide (n = pc + 1 ∧ i < 4) else decide (n = pc + 2))
  | (3, n, i, _, _, _) => decide (n = pc + 3 ∧ 0 ≤ i)
  | (4, n, k, _, _, _) => decide (n = pc + 1 ∧ 0 ≤ k ∧ k ≤ 6)
  | (5, n, k, _, _, _) => decide (n = pc + 1 ∧ 0 ≤ k ∧ k ≤ 4)
  | (6, n, k, _, _, _) => decide (n = pc + 1 ∧ 0 ≤ k ∧ k ≤ 1)
  | (7, n, _, _, _, _) => decide (n = pc + 1)
  | (8, n, _, _, _, _) => decide (n = pc + 1)
  | (9, n, _, _, _, _) => decide (n = pc + 1)
  | (10, n, k, t, _, _) => decide (n = pc + 3 ∧ 0 ≤ t ∧ 0 ≤ k ∧ k ≤ 5)
  | (11, n, k, t, _, _) => decide (n = pc + 3 ∧ 0 ≤ t ∧ 0 ≤ k ∧ k ≤ 5)
  | (12, _, t, _, _, _) => decide (0 ≤ t)
  | (13, _, d, lo, hi, q) => decide (0 ≤ d ∧ (q.length : Int) = hi - lo + 1) && decide (q.map (fun r => r.1) = (List.range q.length).map (fun (j : Nat) => lo + (j : Int))) && q.all (fun r => decide (0 ≤ r.2))
  | (14, _, d, _, _, q) => decide (0 ≤ d) && ((q.map (fun r => (r.1, r.2 - (pc : Int)))).zip ((q.map (fun r => (r.1, r.2 - (pc : Int)))).drop 1)).all (fun (a, next) => a.1 < next.1) && q.all (fun r => decide (0 ≤ r.2))
  | (15, n, ci, k, t, (i, w) :: _) => decide (n = pc + 3 ∧ 0 ≤ ci ∧ ci < 9 ∧ 0 ≤ k ∧ k < (z_cl ci).2.2 ∧ t = z_mt ci.toNat k.toNat) && z_wd w (.fieldLink own i.toNat ((z_cl ci).2.1 k.toNat).1 ((z_cl ci).2.1 k.toNat).2.1 ((z_cl ci).2.1 k.toNat).2.2.1)
  | (16, n, ci, k, t, (i, w) :: _) => decide (n = pc + 3 ∧ 0 ≤ ci ∧ ci < 9 ∧ 0 ≤ k ∧ k < (z_cl ci).2.2 ∧ t = z_mt ci.toNat k.toNat) && z_wd w (.fieldLink own i.toNat ((z_cl ci).2.1 k.toNat).1 ((z_cl ci).2.1 k.toNat).2.1 ((z_cl ci).2.1 k.toNat).2.2.1) && (if ((z_cl ci).2.1 k.toNat).2.2.2 = true then isI && decide (((z_cl ci).2.1 k.toNat).1 = own) else true)
  | (17, n, kd, _, _, _) => decide (n = pc + 1 ∧ 9 ≤ kd ∧ kd ≤ 12)
  | (18, n, kd, _, _, _) => decide (n = pc + 1 ∧ 9 ≤ kd ∧ kd ≤ 12)
  | (19, n, _, _, _, _) => decide (n = pc + 1)
  | (20, n, ci, w, i, q) => decide (n = pc + 3 ∧ 0 ≤ ci ∧ ci < 9 ∧ w = (z_cl ci).2.2) && match q with
    | [(p1, p2), (p3, _)] => z_wd p1 (.classLink own i.toNat (z_cl ci).1) && z_wd p2 (.instantiable (z_cl ci).1 (z_cl ci).2.2) && z_wd p3 (.initialized (z_cl ci).1)
    | _ => false
  | (21, n, kd, _, _, q) => decide (n = pc + 2 ∧ 9 ≤ kd ∧ kd ≤ 11) && match q with
    | [(p1, _)] => z_wd p1 (.arrayClass (if kd = 9 then .int else if kd = 10 then .long else .boolean))
    | _ => false
  | (22, n, i, _, _, q) => decide (n = pc + 3) && match q with
    | [(p1, _)] => z_wd p1 (.classLink own i.toNat RX0)
    | _ => false
  | (23, n, i, _, _, q) => decide (n = pc + 3) && match q with
    | [(p1, p2), (p3, _)] => z_wd p1 (.methodLink own i.toNat objectInit) && z_wd p2 (.instanceMethod objectInit) && z_wd p3 (.code objectInit ⟨#[0xb1]⟩ 1 none)
    | _ => false
  | (24, n, x, i, _, q) => if i = 0 then decide (n = pc + 1 ∧ 0 ≤ x ∧ x ≤ 1) else decide (n = pc + 3 ∧ z_W x = x) && match q with
    | [(p1, _)] => z_wd p1 (.constantLong own i.toNat (Int64.ofInt x))
    | _ => false
  | (26, _, t, _, _, _) => if t = 4 then decide (rt = none) else if t = 1 then decide (rt = some .long) else if t = 0 then decide (rt = some .int) else if t = 3 then decide (rt = some .boolean) else if t = 2 then decide (rt = some (.object RX0)) else false
  | (28, n, k, i, _, q) => decide (n = pc + 3 ∧ 0 ≤ k ∧ k ≤ 1) && match q with
    | [(p1, p2), (p3, p4)] => z_wd p3 (.initialized "java/lang/Math") && (if k = 0 then z_wd p1 (.methodLink own i.toNat Lib.Math.max.name) && z_wd p2 (.static Lib.Math.max.name) && z_wd p4 (.code Lib.Math.max.name Lib.Math.max.code 2 (some .int)) else z_wd p1 (.methodLink own i.toNat Lib.Math.min.name) && z_wd p2 (.static Lib.Math.min.name) && z_wd p4 (.code Lib.Math.min.name Lib.Math.min.code 2 (some .int)))
    | _ => false
  | (29, n, j, i, _, _) => decide (n = pc + 2 ∧ own = RX4 ∧ i = (if j = 0 then 85 else if j = 1 then 91 else 93))
  | (30, n, i, _, _, q) => decide (n = pc + 3) && match q with
    | [(p1, _)] => z_wd p1 (.methodLink own i.toNat ⟨"java/lang/String", "length", "()I"⟩)
    | _ => false
  | (31, n, i, _, _, q) => decide (n = pc + 3) && match q with
    | [(p1, _)] => z_wd p1 (.methodLink own i.toNat ⟨"java/lang/String", "charAt", "(I)C"⟩)
    | _ => false
  | _ => false
def z_good (own : String) (isI : Bool) (rt : Option FieldType) (cc : ByteArray) (pc : Nat) (o : zO) : Bool := decide (decode cc pc = .ok (z_ins o pc)) && z_xtr own isI rt pc o
theorem z_good_inv {own : String} {isI : Bool} {rt : Option FieldType} {cc : ByteArray} {pc : Nat} {o : zO} (h : z_good own isI rt cc pc o = true) : decode cc pc = .ok (z_ins o pc) ∧ z_xtr own isI rt pc o = true := by
  simp only [z_good, Bool.and_eq_true, decide_eq_true_eq] at h
  exact h
def z_C (p : Program) (s : State) (m : MethodId) (args : Array Value) (c : Code) (cc : ByteArray) (nL : Nat) (own : String) (D : va_G) (ca : Nat → ClassId) (ad : Int → Option Nat) (B n0 : Nat) : Prop :=
  p.tables.exec = Jvm.exec ∧ c.code = cc ∧ c.maxLocals = nL ∧ s.vm.findClass own = some m.cls ∧ (∀ w ∈ z_T, w.before args s = true) ∧ z_U D ca ad s ∧ z_A ad B ∧ s.heap.size = B + n0
def z_G (p : Program) (l : Launch) (e : Env) (R : Room) (s : State) (m : MethodId) (args : Array Value) (below : List Frame) (meth : Method) (c : Code) (Q : State → Prop) (nL : Nat) (D : va_G) (ca : Nat → ClassId) (ad : Int → Option Nat) (B n0 s0 : Nat) (pc : Nat) (ll st : List zV) (σ : zS) : Prop :=
  ∀ (H : Heap) (locs : List Loc) (ls : Array Slot), z_H D ca ad B σ s H → va_S (fun q => B ≤ q) s.heap H locs → z_L ad nL ls ll → (∀ v ∈ st, z_okv v) → n0 ≤ σ.1 → s0 ≤ σ.2.1 → W p l e R s m args below meth c H locs (σ.1 - n0) (σ.2.1 - s0) Q (F0 m pc ls (st.map (z_cv ad)))
section ZS
variable {p : Program} {l : Launch} {e : Env} {R : Room} {s : State} {m : MethodId} {args : Array Value} {below : List Frame} {meth : Method} {c : Code} {Q : State → Prop}
variable {cc : ByteArray} {nL : Nat} {own : String} {D : va_G} {ca : Nat → ClassId} {ad : Int → Option Nat} {B n0 s0 : Nat}
variable {isI : Bool} {rt : Option FieldType} {pc n : Nat} {ll st : List zV} {σ : zS} {g : Int} {q : List (Int × Int)}
theorem z_okI {x : Int} (h : z_i32 x) : z_okv (0, x) := ⟨fun _ => h, fun h => by cases h⟩
theorem z_okL {x : Int} (h : z_i64 x) : z_okv (1, x) := ⟨fun h => (by cases h), fun _ => h⟩
theorem z_okR {x : Int} : z_okv (2, x) := ⟨fun h => (by cases h), fun h => (by cases h)⟩
theorem z_okN {x : Int} : z_okv (9, x) := ⟨fun h => (by cases h), fun h => (by cases h)⟩
theorem z_all1 {v : zV} (h : z_okv v) (hs : ∀ w ∈ st, z_okv w) : ∀ w ∈ v :: st, z_okv w := List.forall_mem_cons.mpr ⟨h, hs⟩
theorem zs_0 {x f : Int} (C : z_C p s m args c cc nL own D ca ad B n0) (hg : z_good own isI rt cc pc (0, n, x, f, g, q) = true) (k : z_G p l e R s m args below meth c Q nL D ca ad B n0 s0 n ll ((0, x) :: st) σ) : z_G p l e R s m args below meth c Q nL D ca ad B n0 s0 pc ll st σ := by
  obtain ⟨hd, hx⟩ := z_good_inv hg
  intro H locs ls hH hS hL hst h1 h2
  simp only [z_ins] at hd
  simp only [z_xtr] at hx
  by_cases f0 : f = 0
  · rw [if_pos f0] at hd hx
    simp only [decide_eq_true_eq] at hx
    obtain ⟨rfl, hx⟩ := hx
    exact lv_iconst C.1 C.2.1 hd rfl (k H locs ls hH hS hL (z_all1 (z_okI (by rw [← hx]; exact z_w_in x)) hst) h1 h2)
  · rw [if_neg f0] at hd hx
    by_cases f1 : f = 1
    · rw [if_pos f1] at hd hx
      simp only [decide_eq_true_eq] at hx
      obtain ⟨rfl, hx1, hx2⟩ := hx
      have h32 : z_i32 x := by unfold z_i32; omega
      refine lv_bipush C.1 C.2.1 hd ?_ (k H locs ls hH hS hL (z_all1 (z_okI h32) hst) h1 h2)
      apply Int32.toInt_inj.mp
      rw [Int8.toInt_toInt32, z_t32i h32, Int8.toInt_ofInt]
      unfold Int.bmod
      simp only [Int8.size]
      split <;> omega
    · rw [if_neg f1] at hd hx
      simp only [decide_eq_true_eq] at hx
      obtain ⟨rfl, hx1, hx2⟩ := hx
      have h32 : z_i32 x := by unfold z_i32; omega
      refine lv_sipush C.1 C.2.1 hd ?_ (k H locs ls hH hS hL (z_all1 (z_okI h32) hst) h1 h2)
      apply Int32.toInt_inj.mp
      rw [Int16.toInt_toInt32, z_t32i h32, Int16.toInt_ofInt]
      unfold Int.bmod
      simp only [Int16.size]
      split <;> omega
theorem z_fin4 {i : Int} (h0 : 0 ≤ i) (h : i < 4) : ((Fin.ofNat 4 i.toNat : Fin 4) : Nat) = i.toNat := by
  show i.toNat % 4 = i.toNat
  omega
theorem zs_1 {i t f : Int} {v : zV} (C : z_C p s m args c cc nL own D ca ad B n0) (hg : z_good own isI rt cc pc (1, n, i, t, f, q) = true) (hv : ll[i.toNat]? = some v) (ht : (v.1 : Int) = t ∧ v.1 < 3) (k : z_G p l e R s m args below meth c Q nL D ca ad B n0 s0 n ll (v :: st) σ) : z_G p l e R s m args below meth c Q nL D ca ad B n0 s0 pc ll st σ := by
  obtain ⟨hd, hx⟩ := z_good_inv hg
  intro H locs ls hH hS hL hst h1 h2
  have hs : ls[i.toNat]? = some (.val (z_cv ad v)) := hL.2.2.2.1 _ v hv ht.2
  have kk := k H locs ls hH hS hL (z_all1 (hL.2.2.2.2 v (List.mem_of_getElem? hv)) hst) h1 h2
  simp only [z_ins] at hd
  simp only [z_xtr, Bool.and_eq_true, decide_eq_true_eq] at hx
  obtain ⟨⟨hi, ht0, ht2⟩, hx⟩ := hx
  obtain ⟨tv, x⟩ := v
  obtain ⟨ht, ht3⟩ := ht
  by_cases f0 : f = 0
  · simp only [f0, if_true, decide_eq_true_eq] at hd hx
    obtain ⟨rfl, h4⟩ := hx
    match tv, ht3 with
    | 0, _ =>
      cases ht
      exact lv_iload_n C.1 C.2.1 hd (z_fin4 hi h4) hs kk
    | 1, _ =>
      cases ht
      exact lv_lload_n C.1 C.2.1 hd (z_fin4 hi h4) hs kk
    | 2, _ =>
      cases ht
      cases ha : ad x with
      | none =>
        simp only [z_cv2, ha, List.map_cons] at hs kk
        exact lv_aload_nN C.1 C.2.1 hd (z_fin4 hi h4) hs kk
      | some a =>
        simp only [z_cv2, ha, List.map_cons] at hs kk
        exact lv_aload_n C.1 C.2.1 hd (z_fin4 hi h4) hs kk
  · simp only [f0, if_false, decide_eq_true_eq] at hd hx
    cases hx
    match tv, ht3 with
    | 0, _ =>
      cases ht
      exact lv_iload C.1 C.2.1 hd hs kk
    | 1, _ =>
      cases ht
      exact lv_lload C.1 C.2.1 hd hs kk
    | 2, _ =>
      cases ht
      cases ha : ad x with
      | none =>
        simp only [z_cv2, ha, List.map_cons] at hs kk
        exact lv_aloadN C.1 C.2.1 hd hs kk
      | some a =>
        simp only [z_cv2, ha, List.map_cons] at hs kk
        exact lv_aload C.1 C.2.1 hd hs kk
end ZS
