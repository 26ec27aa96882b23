section ZS
variable {p : Program} {l : Launch} {e : Env} {R : Room} {s : State} {m : MethodId} {args : Array Value} {below : List Frame} {meth : Method} {c : Code} {Q : State → Prop}
variable {cc : ByteArray} {nL : Nat} {own : String} {D : va_G} {ca : Nat → ClassId} {ad : Int → Option Nat} {B n0 s0 : Nat}
variable {isI : Bool} {rt : Option FieldType} {pc n : Nat} {ll st : List zV} {σ : zS} {g : Int} {q : List (Int × Int)}
/-- the locals as the kit lists them -/
def z_lst (ad : Int → Option Nat) (ll : List zV) : List (Nat × Value) := (List.range ll.length).filterMap (fun i => match ll[i]? with
  | some v => if v.1 < 3 then some (i, z_cv ad v) else none
  | none => none)
theorem z_lst_mem {i : Nat} {v : zV} (h : ll[i]? = some v) (h3 : v.1 < 3) : (i, z_cv ad v) ∈ z_lst ad ll := by
  unfold z_lst
  refine List.mem_filterMap.mpr ⟨i, List.mem_range.mpr (List.getElem?_eq_some_iff.mp h).1, ?_⟩
  rw [h]
  simp only [h3, if_true]
theorem z_lst_has {ls : Array Slot} (h : z_L ad nL ls ll) : lv_has ls nL (z_lst ad ll) := by
  refine ⟨h.1, h.2.1, fun q hq => ?_⟩
  obtain ⟨i, -, hi⟩ := List.mem_filterMap.mp hq
  cases hv : ll[i]? with
  | none => rw [hv] at hi; cases hi
  | some v =>
    rw [hv] at hi
    simp only at hi
    split at hi
    · rename_i h3
      cases hi
      exact h.2.2.2.1 i v hv h3
    · cases hi
theorem z_pre_ok {i : Nat} {w : zV} (h : z_pre ll i = true) (j : Nat) (hj : ll[j]? = some w) (h1 : j + 1 = i) : ¬ w.1 = 1 := by
  subst h1
  simp only [z_pre, List.getD_eq_getElem?_getD, hj, Option.getD_some] at h
  simpa using h
/-- storing a value of one slot -/
theorem z_L_set {ls' : Array Slot} {i : Nat} {v : zV} (hv : v.1 = 0 ∨ v.1 = 2) (hok : z_okv v) (hp : z_pre ll i = true) (hlen : ll.length = nL) (hall : ∀ w ∈ ll, z_okv w)
    (h : lv_has ls' nL ((i, z_cv ad v) :: (z_lst ad ll).filter (fun q => !(q.1 == i) && !(q.1 + 1 == i && q.2.category == 2)))) : z_L ad nL ls' (ll.set i v) := by
  obtain ⟨h1, h2, h3⟩ := h
  refine ⟨h1, h2, by simp [hlen], fun j w hj hw => ?_, fun w hw => ?_⟩
  · by_cases e : j = i
    · subst e
      have hl : j < ll.length := by
        have := (List.getElem?_eq_some_iff.mp hj).1
        simpa using this
      rw [List.getElem?_set_self hl] at hj
      cases hj
      exact h3 _ List.mem_cons_self
    · rw [List.getElem?_set_ne (fun z => e z.symm)] at hj
      refine h3 (j, z_cv ad w) (List.mem_cons_of_mem _ (List.mem_filter.mpr ⟨z_lst_mem hj hw, ?_⟩))
      have h5 : ¬ (j + 1 = i ∧ (z_cv ad w).category = 2) := fun ⟨a, b⟩ => z_pre_ok hp j hj a ((z_catl hw).mp b)
      simp only [Bool.and_eq_true, Bool.not_eq_true', beq_eq_false_iff_ne, Bool.and_eq_false_iff]
      refine ⟨e, ?_⟩
      by_cases a : j + 1 = i
      · exact Or.inr (fun b => h5 ⟨a, b⟩)
      · exact Or.inl a
  · rcases List.mem_or_eq_of_mem_set hw with h | h
    · exact hall w h
    · rw [h]; exact hok
/-- storing a long -/
theorem z_L_set2 {ls' : Array Slot} {i : Nat} {v : zV} (hv : v.1 = 1) (hok : z_okv v) (hp : z_pre ll i = true) (hlen : ll.length = nL) (hi : i + 1 < nL) (hall : ∀ w ∈ ll, z_okv w)
    (h : lv_has ls' nL ((i, z_cv ad v) :: (z_lst ad ll).filter (fun q => !(q.1 == i) && (!(q.1 == i + 1) && !(q.1 + 1 == i && q.2.category == 2))))) : z_L ad nL ls' ((ll.set i v).set (i + 1) (9, 0)) := by
  obtain ⟨h1, h2, h3⟩ := h
  refine ⟨h1, h2, by simp [hlen], fun j w hj hw => ?_, fun w hw => ?_⟩
  · by_cases e1 : j = i + 1
    · subst e1
      rw [List.getElem?_set_self (by simp; omega)] at hj
      cases hj
      exact absurd hw (by decide)
    · rw [List.getElem?_set_ne (fun z => e1 z.symm)] at hj
      by_cases e : j = i
      · subst e
        rw [List.getElem?_set_self (by omega)] at hj
        cases hj
        exact h3 _ List.mem_cons_self
      · rw [List.getElem?_set_ne (fun z => e z.symm)] at hj
        refine h3 (j, z_cv ad w) (List.mem_cons_of_mem _ (List.mem_filter.mpr ⟨z_lst_mem hj hw, ?_⟩))
        have h5 : ¬ (j + 1 = i ∧ (z_cv ad w).category = 2) := fun ⟨a, b⟩ => z_pre_ok hp j hj a ((z_catl hw).mp b)
        simp only [Bool.and_eq_true, Bool.not_eq_true', beq_eq_false_iff_ne, Bool.and_eq_false_iff]
        refine ⟨e, e1, ?_⟩
        by_cases a : j + 1 = i
        · exact Or.inr (fun b => h5 ⟨a, b⟩)
        · exact Or.inl a
  · rcases List.mem_or_eq_of_mem_set hw with h | h
    · rcases List.mem_or_eq_of_mem_set h with h | h
      · exact hall w h
      · rw [h]; exact hok
    · rw [h]; exact z_okN
theorem zs_2 {i t f : Int} {v : zV} (C : z_C p s m args c cc nL own D ca ad B n0) (hg : z_good own isI rt cc pc (2, n, i, t, f, q) = true) (ht : (v.1 : Int) = t ∧ v.1 < 3 ∧ i.toNat + v.1 % 2 < ll.length ∧ z_pre ll i.toNat = true) (k : z_G p l e R s m args below meth c Q nL D ca ad B n0 s0 n (z_set ll i.toNat v) st σ) : z_G p l e R s m args below meth c Q nL D ca ad B n0 s0 pc ll (v :: st) σ := by
  obtain ⟨hd, hx⟩ := z_good_inv hg
  intro H locs ls hH hS hL hst h1 h2
  obtain ⟨hvo, hst⟩ := List.forall_mem_cons.mp hst
  have kk := fun ls' hL' => k H locs ls' hH hS hL' hst h1 h2
  have hh := z_lst_has hL
  simp only [z_ins] at hd
  simp only [z_xtr, Bool.and_eq_true, decide_eq_true_eq] at hx
  obtain ⟨⟨hi, ht0, ht2⟩, hx⟩ := hx
  obtain ⟨tv, x⟩ := v
  obtain ⟨ht, ht3, hlt, hpre⟩ := ht
  have hlen := hL.2.2.1
  by_cases f0 : f = 0
  · simp only [f0, if_true, decide_eq_true_eq] at hd hx
    obtain ⟨rfl, h4⟩ := hx
    match tv, ht3 with
    | 0, _ =>
      cases ht
      exact lv_istore_n C.1 C.2.1 hd (z_fin4 hi h4) hh (by rw [← hlen]; exact hlt) rfl (fun ls' h' => kk ls' (z_L_set (Or.inl rfl) hvo hpre hlen hL.2.2.2.2 h'))
    | 1, _ =>
      cases ht
      exact lv_lstore_n C.1 C.2.1 hd (z_fin4 hi h4) hh (by rw [← hlen]; exact hlt) rfl (fun ls' h' => kk ls' (z_L_set2 rfl hvo hpre hlen (by rw [← hlen]; exact hlt) hL.2.2.2.2 h'))
    | 2, _ =>
      cases ht
      rw [List.map_cons, z_cv2]
      cases ha : ad x with
      | none => exact lv_astore_nN C.1 C.2.1 hd (z_fin4 hi h4) hh (by rw [← hlen]; exact Nat.lt_of_le_of_lt (Nat.le_add_right _ _) hlt) rfl (fun ls' h' => kk ls' (z_L_set (Or.inr rfl) hvo hpre hlen hL.2.2.2.2 (by rw [z_cv2, ha]; exact h')))
      | some a => exact lv_astore_n C.1 C.2.1 hd (z_fin4 hi h4) hh (by rw [← hlen]; exact Nat.lt_of_le_of_lt (Nat.le_add_right _ _) hlt) rfl (fun ls' h' => kk ls' (z_L_set (Or.inr rfl) hvo hpre hlen hL.2.2.2.2 (by rw [z_cv2, ha]; exact h')))
  · simp only [f0, if_false, decide_eq_true_eq] at hd hx
    cases hx
    match tv, ht3 with
    | 0, _ =>
      cases ht
      exact lv_istore C.1 C.2.1 hd hh (by rw [← hlen]; exact hlt) rfl (fun ls' h' => kk ls' (z_L_set (Or.inl rfl) hvo hpre hlen hL.2.2.2.2 h'))
    | 1, _ =>
      cases ht
      exact lv_lstore C.1 C.2.1 hd hh (by rw [← hlen]; exact hlt) rfl (fun ls' h' => kk ls' (z_L_set2 rfl hvo hpre hlen (by rw [← hlen]; exact hlt) hL.2.2.2.2 h'))
    | 2, _ =>
      cases ht
      rw [List.map_cons, z_cv2]
      cases ha : ad x with
      | none => exact lv_astoreN C.1 C.2.1 hd hh (by rw [← hlen]; exact Nat.lt_of_le_of_lt (Nat.le_add_right _ _) hlt) rfl (fun ls' h' => kk ls' (z_L_set (Or.inr rfl) hvo hpre hlen hL.2.2.2.2 (by rw [z_cv2, ha]; exact h')))
      | some a => exact lv_astore C.1 C.2.1 hd hh (by rw [← hlen]; exact Nat.lt_of_le_of_lt (Nat.le_add_right _ _) hlt) rfl (fun ls' h' => kk ls' (z_L_set (Or.inr rfl) hvo hpre hlen hL.2.2.2.2 (by rw [z_cv2, ha]; exact h')))
theorem zs_3 {i kc : Int} {x : Int} (C : z_C p s m args c cc nL own D ca ad B n0) (hg : z_good own isI rt cc pc (3, n, i, kc, g, q) = true) (hv : ll[i.toNat]? = some (0, x)) (hpre : z_pre ll i.toNat = true) (k : z_G p l e R s m args below meth c Q nL D ca ad B n0 s0 n (ll.set i.toNat (0, z_w (x + kc))) st σ) : z_G p l e R s m args below meth c Q nL D ca ad B n0 s0 pc ll st σ := by
  obtain ⟨hd, hx⟩ := z_good_inv hg
  intro H locs ls hH hS hL hst h1 h2
  simp only [z_ins] at hd
  simp only [z_xtr, decide_eq_true_eq] at hx
  obtain ⟨rfl, hi⟩ := hx
  have hh := z_lst_has hL
  obtain ⟨j, hj⟩ := List.getElem?_of_mem (z_lst_mem (ad := ad) hv (show (0 : Nat) < 3 by decide))
  have hlt : i.toNat < ll.length := (List.getElem?_eq_some_iff.mp hv).1
  exact lv_iinc (v := Int32.ofInt (z_w (x + kc))) C.1 C.2.1 hd hh hj (by rw [z_o32, Int32.ofInt_add]) (by rw [← hL.2.2.1]; exact hlt) rfl (fun ls' h' => k H locs ls' hH hS (z_L_set (Or.inl rfl) (z_okI (z_w_in _)) hpre hL.2.2.1 hL.2.2.2.2 h') hst h1 h2)
theorem z_eq32 {x y : Int} (hx : z_i32 x) (hy : z_i32 y) : Int32.ofInt x = Int32.ofInt y ↔ x = y := by
  rw [← Int32.toInt_inj, z_t32i hx, z_t32i hy]
theorem z_lt32 {x y : Int} (hx : z_i32 x) (hy : z_i32 y) : Int32.ofInt x < Int32.ofInt y ↔ x < y := by
  rw [Int32.lt_iff_toInt_lt, z_t32i hx, z_t32i hy]
theorem z_le32 {x y : Int} (hx : z_i32 x) (hy : z_i32 y) : Int32.ofInt x ≤ Int32.ofInt y ↔ x ≤ y := by
  rw [Int32.le_iff_toInt_le, z_t32i hx, z_t32i hy]
theorem z_i32_0 : z_i32 0 := by unfold z_i32; omega
theorem z_o320 : Int32.ofInt 0 = 0 := rfl
theorem z_and255 (x : Int) : Int32.ofInt x &&& Int32.ofInt 255 = Int32.ofInt (x % 256) := by
  apply Int32.toBitVec_inj.mp
  rw [Int32.toBitVec_and, Int32.toBitVec_ofInt, Int32.toBitVec_ofInt, Int32.toBitVec_ofInt]
  apply BitVec.eq_of_toNat_eq
  rw [BitVec.toNat_and, BitVec.toNat_ofInt, BitVec.toNat_ofInt, BitVec.toNat_ofInt]
  have h := Nat.and_two_pow_sub_one_eq_mod (x % 4294967296).toNat 8
  show (x % 4294967296).toNat &&& (2 ^ 8 - 1) = (x % 256 % 4294967296).toNat
  rw [h]
  omega
theorem z_and63 (x : Int) : Int32.ofInt x &&& Int32.ofInt 63 = Int32.ofInt (x % 64) := by
  apply Int32.toBitVec_inj.mp
  rw [Int32.toBitVec_and, Int32.toBitVec_ofInt, Int32.toBitVec_ofInt, Int32.toBitVec_ofInt]
  apply BitVec.eq_of_toNat_eq
  rw [BitVec.toNat_and, BitVec.toNat_ofInt, BitVec.toNat_ofInt, BitVec.toNat_ofInt]
  have h := Nat.and_two_pow_sub_one_eq_mod (x % 4294967296).toNat 6
  show (x % 4294967296).toNat &&& (2 ^ 6 - 1) = (x % 64 % 4294967296).toNat
  rw [h]
  omega
theorem z_shr {x : Int} (hx : z_i32 x) (w : Nat) (hw : w = 0 ∨ w = 8 ∨ w = 16 ∨ w = 24) : Int32.ofInt x >>> (Int32.ofInt (w : Int) &&& 31) = Int32.ofInt (x / 2 ^ w) := by
  apply Int32.toInt_inj.mp
  have hr : z_i32 (x / 2 ^ w) := by
    unfold z_i32 at *
    rcases hw with rfl | rfl | rfl | rfl <;> omega
  rw [z_t32i hr]
  have hb : (Int32.ofInt (w : Int) &&& 31).toBitVec.smod 32 = BitVec.ofNat 32 w := by
    rcases hw with rfl | rfl | rfl | rfl <;> decide
  have e : (Int32.ofInt x >>> (Int32.ofInt (w : Int) &&& 31)).toInt = (Int32.ofInt x).toInt >>> w := by
    show (BitVec.sshiftRight' (Int32.ofInt x).toBitVec ((Int32.ofInt (w : Int) &&& 31).toBitVec.smod 32)).toInt = (Int32.ofInt x).toBitVec.toInt >>> w
    rw [hb, BitVec.sshiftRight'_ofNat_eq_sshiftRight, BitVec.toInt_sshiftRight]
    rcases hw with rfl | rfl | rfl | rfl <;> rfl
  rw [e, z_t32i hx, Int.shiftRight_eq_div_pow]
  rcases hw with rfl | rfl | rfl | rfl <;> rfl
theorem z_ushr {x : Int} (w : Nat) (hw : w = 8 ∨ w = 16 ∨ w = 24) : ((Int32.ofInt x).toUInt32 >>> ((Int32.ofInt (w : Int)).toUInt32 &&& Int32.toUInt32 31)).toInt32 = Int32.ofInt (x % 4294967296 / 2 ^ w) := by
  apply Int32.toBitVec_inj.mp
  rw [UInt32.toBitVec_toInt32, Int32.toBitVec_ofInt]
  apply BitVec.eq_of_toNat_eq
  rw [BitVec.toNat_ofInt]
  show ((Int32.ofInt x).toUInt32 >>> ((Int32.ofInt (w : Int)).toUInt32 &&& Int32.toUInt32 31)).toNat = _
  rw [UInt32.toNat_shiftRight]
  have hb : ((Int32.ofInt (w : Int)).toUInt32 &&& Int32.toUInt32 31).toNat % 32 = w := by
    rcases hw with rfl | rfl | rfl <;> decide
  rw [hb, Nat.shiftRight_eq_div_pow]
  have hx : (Int32.ofInt x).toUInt32.toNat = (x % 4294967296).toNat := by
    show (BitVec.ofInt 32 x).toNat = _
    rw [BitVec.toNat_ofInt]
    rfl
  rw [hx]
  rcases hw with rfl | rfl | rfl
  · show (x % 4294967296).toNat / 256 = (x % 4294967296 / 256 % 4294967296).toNat
    omega
  · show (x % 4294967296).toNat / 65536 = (x % 4294967296 / 65536 % 4294967296).toNat
    omega
  · show (x % 4294967296).toNat / 16777216 = (x % 4294967296 / 16777216 % 4294967296).toNat
    omega
theorem z_alu_ok {k x y z : Int} (hx : z_i32 x) (hy : z_i32 y) (h : z_alu k x y = some z) : z_i32 z := by
  unfold z_alu at h
  unfold z_i32 at *
  repeat' split at h
  all_goals first | (cases h; done) | (cases h; first | exact z_w_in _ | omega)
theorem zs_4 {kc x y z : Int} {g2 : Int} (C : z_C p s m args c cc nL own D ca ad B n0) (hg : z_good own isI rt cc pc (4, n, kc, g, g2, q) = true) (hz : z_alu kc x y = some z) (k : z_G p l e R s m args below meth c Q nL D ca ad B n0 s0 n ll ((0, z) :: st) σ) : z_G p l e R s m args below meth c Q nL D ca ad B n0 s0 pc ll ((0, y) :: (0, x) :: st) σ := by
  obtain ⟨hd, hxx⟩ := z_good_inv hg
  intro H locs ls hH hS hL hst h1 h2
  simp only [z_ins] at hd
  simp only [z_xtr, decide_eq_true_eq] at hxx
  obtain ⟨rfl, hk0, hk6⟩ := hxx
  obtain ⟨hy, hst⟩ := List.forall_mem_cons.mp hst
  obtain ⟨hx, hst⟩ := List.forall_mem_cons.mp hst
  have hx := hx.1 rfl
  have hy := hy.1 rfl
  have kk := k H locs ls hH hS hL (z_all1 (z_okI (z_alu_ok hx hy hz)) hst) h1 h2
  simp only [List.map_cons, z_cv0] at kk ⊢
  have hc : kc = 0 ∨ kc = 1 ∨ kc = 2 ∨ kc = 3 ∨ kc = 4 ∨ kc = 5 ∨ kc = 6 := by omega
  rcases hc with rfl | rfl | rfl | rfl | rfl | rfl | rfl
  · cases hz
    rw [z_o32, Int32.ofInt_add] at kk
    exact lv_iadd C.1 C.2.1 hd kk
  · cases hz
    rw [z_o32, Int32.ofInt_sub] at kk
    exact lv_isub C.1 C.2.1 hd kk
  · cases hz
    rw [z_o32, Int32.ofInt_mul] at kk
    exact lv_imul C.1 C.2.1 hd kk
  · have hz : (if y = 255 then some (x % 256) else if y = 63 then some (x % 64) else none) = some z := hz
    split at hz
    · rename_i h
      subst h
      cases hz
      rw [← z_and255] at kk
      exact lv_iand C.1 C.2.1 hd kk
    · split at hz
      · rename_i h
        subst h
        cases hz
        rw [← z_and63] at kk
        exact lv_iand C.1 C.2.1 hd kk
      · cases hz
  · have hz : (if y = 0 then some x else if y = 8 then some (x / 256) else if y = 16 then some (x / 65536) else if y = 24 then some (x / 16777216) else none) = some z := hz
    have key : ∃ w : Nat, (w = 0 ∨ w = 8 ∨ w = 16 ∨ w = 24) ∧ y = (w : Int) ∧ z = x / 2 ^ w := by
      split at hz
      · rename_i h; cases hz; exact ⟨0, by decide, h, by simp⟩
      · split at hz
        · rename_i h; cases hz; exact ⟨8, by decide, h, rfl⟩
        · split at hz
          · rename_i h; cases hz; exact ⟨16, by decide, h, rfl⟩
          · split at hz
            · rename_i h; cases hz; exact ⟨24, by decide, h, rfl⟩
            · cases hz
    obtain ⟨w, hw, rfl, rfl⟩ := key
    rw [← z_shr hx w hw] at kk
    exact lv_ishr C.1 C.2.1 hd kk
  · have hz : (if y = 8 then some (x % 4294967296 / 256) else if y = 16 then some (x % 4294967296 / 65536) else if y = 24 then some (x % 4294967296 / 16777216) else none) = some z := hz
    have key : ∃ w : Nat, (w = 8 ∨ w = 16 ∨ w = 24) ∧ y = (w : Int) ∧ z = x % 4294967296 / 2 ^ w := by
      split at hz
      · rename_i h; cases hz; exact ⟨8, by decide, h, rfl⟩
      · split at hz
        · rename_i h; cases hz; exact ⟨16, by decide, h, rfl⟩
        · split at hz
          · rename_i h; cases hz; exact ⟨24, by decide, h, rfl⟩
          · cases hz
    obtain ⟨w, hw, rfl, rfl⟩ := key
    exact lv_iushr C.1 C.2.1 hd (z_ushr w hw) kk
  · have hz : (if y = 0 then none else some (z_w (x.tdiv y))) = some z := hz
    by_cases hy0 : y = 0
    · rw [if_pos hy0] at hz; cases hz
    · rw [if_neg hy0] at hz
      cases hz
      refine lv_idiv C.1 C.2.1 hd (fun h => hy0 ((z_eq32 hy z_i32_0).mp h)) ?_
      have e : Int32.ofInt x / Int32.ofInt y = Int32.ofInt (z_w (x.tdiv y)) := by
        apply Int32.toInt_inj.mp
        rw [Int32.toInt_div, z_t32i hx, z_t32i hy, z_t32, z_w_id (z_w_in _)]
        unfold z_w Int.bmod
        simp only [Int32.size]
        split <;> omega
      rw [e]
      exact kk
end ZS
