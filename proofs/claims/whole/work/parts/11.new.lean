section ZS
variable {p : Program} {l : Launch} {e : Env} {R : Room} {s : State} {m : MethodId} {args : Array Value} {below : List Frame} {meth : Method} {c : Code} {Q : State → Prop}
variable {cc : ByteArray} {nL : Nat} {own : String} {D : va_G} {ca : Nat → ClassId} {ad : Int → Option Nat} {B n0 s0 : Nat}
variable {isI : Bool} {rt : Option FieldType} {pc n : Nat} {ll st : List zV} {σ : zS} {g g2 g3 : Int} {q : List (Int × Int)}
/-- the state with one cell more -/
def z_mk (σ : zS) (kd w : Nat) : zS := (σ.1 + 1, σ.2.1 + w, z_shu σ.2.2.1 ((σ.1 : Int) + 1) (kd, w), fun a i => if a = (σ.1 : Int) + 1 then 0 else σ.2.2.2 a i)
theorem z_mk_sh {kd w : Nat} {a : Int} (h : a ≠ (σ.1 : Int) + 1) : (z_mk σ kd w).2.2.1 a = σ.2.2.1 a := by
  show z_shu σ.2.2.1 ((σ.1 : Int) + 1) (kd, w) a = _
  unfold z_shu
  rw [if_neg h]
theorem z_mk_shs {kd w : Nat} : (z_mk σ kd w).2.2.1 ((σ.1 : Int) + 1) = (kd, w) := by
  show z_shu σ.2.2.1 ((σ.1 : Int) + 1) (kd, w) _ = _
  unfold z_shu
  rw [if_pos rfl]
theorem z_mk_m {kd w : Nat} {a i : Int} (h : a ≠ (σ.1 : Int) + 1) : (z_mk σ kd w).2.2.2 a i = σ.2.2.2 a i := by
  show (if a = (σ.1 : Int) + 1 then 0 else σ.2.2.2 a i) = _
  rw [if_neg h]
theorem z_mk_ms {kd w : Nat} {i : Int} : (z_mk σ kd w).2.2.2 ((σ.1 : Int) + 1) i = 0 := by
  show (if ((σ.1 : Int) + 1) = (σ.1 : Int) + 1 then 0 else σ.2.2.2 _ i) = _
  rw [if_pos rfl]
theorem z_mk_cel {kd w : Nat} {a : Int} (h : a ≠ (σ.1 : Int) + 1) : z_cel ca ad (z_mk σ kd w) a = z_cel ca ad σ a := by
  have e1 := z_mk_sh (kd := kd) (w := w) h
  have e2 : ∀ i, (z_mk σ kd w).2.2.2 a i = σ.2.2.2 a i := fun i => z_mk_m h
  unfold z_cel
  simp only [e1, e2]
theorem z_mk_ws {kd w : Nat} : z_ws ca ad B (z_mk σ kd w) = z_ws ca ad B σ ++ [(B + σ.1, z_cel ca ad (z_mk σ kd w) ((σ.1 : Int) + 1))] := by
  unfold z_ws
  show (List.range (σ.1 + 1)).map _ = _
  rw [List.range_succ, List.map_append]
  congr 1
  apply List.map_congr_left
  intro j hj
  have := List.mem_range.mp hj
  rw [z_mk_cel (by omega)]
theorem z_mk_ok {kd w : Nat} (hok : z_ok σ) (hw : w < 2147483648) (hkd : kd < 9 → w = z_N kd) : z_ok (z_mk σ kd w) := by
  refine ⟨fun a ha => ?_, fun a ha => ?_, fun a => ?_, ?_, fun a i ha => ?_⟩
  · show a = -1 ∨ (1 ≤ a ∧ a ≤ ((σ.1 + 1 : Nat) : Int))
    by_cases e : a = (σ.1 : Int) + 1
    · right; omega
    · rw [z_mk_sh e] at ha
      rcases hok.1 a ha with h | h
      · exact Or.inl h
      · right; omega
  · by_cases e : a = (σ.1 : Int) + 1
    · subst e
      rw [z_mk_shs] at ha ⊢
      exact hkd ha
    · rw [z_mk_sh e] at ha ⊢
      exact hok.2.1 a ha
  · by_cases e : a = (σ.1 : Int) + 1
    · subst e
      rw [z_mk_shs]
      exact hw
    · rw [z_mk_sh e]
      exact hok.2.2.1 a
  · rw [z_mk_sh (by omega)]
    exact hok.2.2.2.1
  · by_cases e : a = (σ.1 : Int) + 1
    · subst e
      rw [z_mk_ms]
      exact ⟨fun _ => z_i32_0, fun _ => z_i64_0⟩
    · rw [z_mk_sh e] at ha ⊢
      rw [z_mk_m e]
      exact hok.2.2.2.2 a i ha
theorem z_mk_X {kd w : Nat} {U : State} {H : Heap} (h : z_X ad B σ U H) : z_X ad B (z_mk σ kd w) U H := by
  obtain ⟨b, e1, e2, e3⟩ := h
  refine ⟨b, e1, e2, ?_⟩
  have e : ∀ i, (z_mk σ kd w).2.2.2 (-1) i = σ.2.2.2 (-1) i := fun i => z_mk_m (by omega)
  simp only [z_mk_sh (σ := σ) (kd := kd) (w := w) (a := -1) (by omega), e]
  exact e3
/-- the address of a new cell: the next one -/
theorem z_next {H1 : Heap} {x : Nat} {ee : va_E} (hP : va_P D vwCl (z_ws ca ad B σ ++ [(x, ee)]) H1) (hD : va_D (fun q => B ≤ q) (z_ws ca ad B σ ++ [(x, ee)])) (hz : H1.size ≤ B + σ.1 + 1) : x = B + σ.1 := by
  have hl : (z_ws ca ad B σ).length = σ.1 := by simp [z_ws]
  have hx : (z_ws ca ad B σ ++ [(x, ee)])[σ.1]? = some (x, ee) := by
    rw [List.getElem?_append_right (by omega), hl]
    simp
  have h1 : x < H1.size := (hP σ.1 _ hx).lt
  have h2 : B ≤ x := hD.2 σ.1 _ hx
  by_cases h : x = B + σ.1
  · exact h
  · exfalso
    have hlt : x - B < σ.1 := by omega
    have hy : (z_ws ca ad B σ ++ [(x, ee)])[x - B]? = some (B + (x - B), z_cel ca ad σ (((x - B : Nat) : Int) + 1)) := by
      rw [List.getElem?_append_left (by omega)]
      exact z_ws_get hlt
    have := hD.1 (x - B) σ.1 _ _ hy hx (by show B + (x - B) = x; omega)
    omega
/-- .. and what goes on behind it -/
theorem z_mk_go {kd w npc : Nat} {H1 : Heap} {locs : List Loc} {H : Heap} {ls : Array Slot} {x : Nat} (hs : s.heap.size = B + n0) (hA : z_A ad B) (hH : z_H D ca ad B σ s H) (hS : va_S (fun q => B ≤ q) s.heap H locs) (hL : z_L ad nL ls ll) (hst : ∀ v ∈ st, z_okv v) (h1 : n0 ≤ σ.1) (h2 : s0 ≤ σ.2.1)
    (hw : w < 2147483648) (hkd : kd < 9 → w = z_N kd) (hP1 : va_P D vwCl (z_ws ca ad B σ ++ [(x, z_cel ca ad (z_mk σ kd w) ((σ.1 : Int) + 1))]) H1) (hD1 : va_D (fun q => B ≤ q) (z_ws ca ad B σ ++ [(x, z_cel ca ad (z_mk σ kd w) ((σ.1 : Int) + 1))])) (hS1 : va_S (fun q => B ≤ q) s.heap H1 locs)
    (k : z_G p l e R s m args below meth c Q nL D ca ad B n0 s0 npc ll ((2, (σ.1 : Int) + 1) :: st) (z_mk σ kd w)) : W p l e R s m args below meth c H1 locs (σ.1 - n0 + 1) (σ.2.1 - s0 + w) Q (F0 m npc ls (.ref x :: st.map (z_cv ad))) := by
  intro T hT X
  have hz := X.heapSize
  rw [hT] at hz
  have ex : x = B + σ.1 := z_next hP1 hD1 (by omega)
  subst ex
  rw [← z_mk_ws] at hP1
  have k2 := k H1 locs ls ⟨hP1, z_mk_ok hH.2.1 hw hkd, z_mk_X (z_X_kept hH.2.2.1 (by omega) hS hS1), z_E_kept hH.2.2.2 (by omega) hS hS1⟩ hS1 hL (z_all1 z_okR hst) (by show n0 ≤ σ.1 + 1; omega) (by show s0 ≤ σ.2.1 + w; omega)
  rw [List.map_cons, z_cv2, hA.2 σ.1, show (z_mk σ kd w).1 - n0 = σ.1 - n0 + 1 by show σ.1 + 1 - n0 = _; omega, show (z_mk σ kd w).2.1 - s0 = σ.2.1 - s0 + w by show σ.2.1 + w - s0 = _; omega] at k2
  exact k2 T hT X
theorem z_def {F : FieldType} (hF : F = .int ∨ F = .long ∨ F = .boolean ∨ (∃ C, F = .object C) ∨ ∃ T, F = .array T) (h0 : ad 0 = none) : defaultValue F = z_fv ad (z_tag F) 0 := by
  rcases hF with rfl | rfl | rfl | ⟨C, rfl⟩ | ⟨T, rfl⟩
  · rfl
  · rfl
  · rfl
  · show Value.null = va_rf (ad 0)
    rw [h0]
    rfl
  · show Value.null = va_rf (ad 0)
    rw [h0]
    rfl
theorem zs_20 {ci w i : Int} (C : z_C p s m args c cc nL own D ca ad B n0) (hcap : σ.1 + 1 - n0 ≤ R.cells ∧ σ.2.1 + w.toNat - s0 ≤ R.slots) (hg : z_good own isI rt cc pc (20, n, ci, w, i, q) = true) (k : z_G p l e R s m args below meth c Q nL D ca ad B n0 s0 n ll ((2, (σ.1 : Int) + 1) :: st) (z_mk σ ci.toNat w.toNat)) : z_G p l e R s m args below meth c Q nL D ca ad B n0 s0 pc ll st σ := by
  obtain ⟨hd, hxx⟩ := z_good_inv hg
  intro H locs ls hH hS hL hst h1 h2
  simp only [z_ins] at hd
  simp only [z_xtr, Bool.and_eq_true, decide_eq_true_eq] at hxx
  obtain ⟨⟨rfl, c0, c9, rfl⟩, hw⟩ := hxx
  have hts := C.2.2.2.2.1
  split at hw
  · simp only [Bool.and_eq_true] at hw
    obtain ⟨⟨w1, w2⟩, w3⟩ := hw
    obtain ⟨hc, hin, hty, hnm, hN⟩ := z_cls c0 c9
    have e9 : (z_mk σ ci.toNat ((z_cl ci).2.2 : Int).toNat).2.2.1 ((σ.1 : Int) + 1) = (ci.toNat, (z_cl ci).2.2) := by rw [z_mk_shs]; simp
    have hcel : z_cel ca ad (z_mk σ ci.toNat ((z_cl ci).2.2 : Int).toNat) ((σ.1 : Int) + 1) = .inr (ci.toNat, (List.range (z_cl ci).2.2).map (fun j => z_fv ad (z_mt ci.toNat j) 0)) := by
      rw [z_cel_obj (by rw [e9]; show ci.toNat < 9; omega), e9]
      simp only [z_mk_ms]
    refine va_new (fs := (List.range (z_cl ci).2.2).map (fun j => z_fv ad (z_mt ci.toNat j) 0)) C.1 C.2.1 hts hin (z_tyF ci.toNat) hty C.2.2.2.1 (hts _ (z_wd_in w1)) (hts _ (z_wd_in w2)) (hts _ (z_wd_in w3)) C.2.2.2.2.2.1.1 hH.1 z_D hS (fun q hq => by rw [C.2.2.2.2.2.2.2] at hq; show B ≤ q; omega) hc (fun j hj => ?_) (by omega) (by simp at hcap; omega) hd (fun x H1 a1 a2 a3 => ?_)
    · show _ = ((List.range (z_cl ci).2.2).map (fun j => z_fv ad (z_mt ci.toNat j) 0)).getD j .null
      rw [List.getD_eq_getElem?_getD, List.getElem?_map, List.getElem?_range hj]
      simp only [Option.map_some, Option.getD_some]
      rw [z_mt_obj (by omega)]
      exact z_def (z_tyF_is ci.toNat (by omega) j (by rw [← hN]; exact hj)) C.2.2.2.2.2.2.1.1
    · rw [← hcel] at a1 a2
      have := z_mk_go C.2.2.2.2.2.2.2 C.2.2.2.2.2.2.1 hH hS hL hst h1 h2 (by
        have hb : ∀ c, c < 9 → z_N c < 2147483648 := by decide +kernel
        have := hb ci.toNat (by omega)
        rw [← hN] at this
        omega) (fun _ => by rw [← hN]; omega) a1 a2 a3 k
      simpa using this
  · cases hw
theorem z_arr {ty : FieldType} {cA cB : ClassId} (hty : ty = .int ∨ ty = .long ∨ ty = .boolean) (h1 : va_RA s cA ty) (h2 : va_RA s cB ty) : cA = cB := by
  rcases hty with rfl | rfl | rfl <;> exact Option.some.inj (h1.symm.trans h2)
theorem zs_21 {kd x : Int} (C : z_C p s m args c cc nL own D ca ad B n0) (hcap : σ.1 + 1 - n0 ≤ R.cells ∧ σ.2.1 + x.toNat - s0 ≤ R.slots) (hg : z_good own isI rt cc pc (21, n, kd, g, g2, q) = true) (hx : 0 ≤ x ∧ x ≤ 4000) (k : z_G p l e R s m args below meth c Q nL D ca ad B n0 s0 n ll ((2, (σ.1 : Int) + 1) :: st) (z_mk σ kd.toNat x.toNat)) : z_G p l e R s m args below meth c Q nL D ca ad B n0 s0 pc ll ((0, x) :: st) σ := by
  obtain ⟨hd, hxx⟩ := z_good_inv hg
  intro H locs ls hH hS hL hst h1 h2
  replace hst := (List.forall_mem_cons.mp hst).2
  simp only [z_ins] at hd
  simp only [z_xtr, Bool.and_eq_true, decide_eq_true_eq] at hxx
  obtain ⟨⟨rfl, k9, k11⟩, hw⟩ := hxx
  have hts := C.2.2.2.2.1
  have hK := C.2.2.2.2.2.1.1
  have h32 : z_i32 x := by unfold z_i32; omega
  have hn0 : ¬ Int32.ofInt x < 0 := fun z => by have := (z_lt32 h32 z_i32_0).mp z; omega
  have hcl : (Int32.ofInt x).toNatClampNeg = x.toNat := by
    show (Int32.ofInt x).toInt.toNat = x.toNat
    rw [z_t32i h32]
  have hA9 : ∀ q : Nat, s.heap.size ≤ q → (fun q => B ≤ q) q := fun q hq => by rw [C.2.2.2.2.2.2.2] at hq; show B ≤ q; omega
  have go := fun (kd' : Nat) (k' : z_G p l e R s m args below meth c Q nL D ca ad B n0 s0 (pc + 2) ll ((2, (σ.1 : Int) + 1) :: st) (z_mk σ kd' x.toNat)) (x1 : Nat) (H1 : Heap) (hkd : kd' < 9 → x.toNat = z_N kd') a1 a2 a3 => z_mk_go (x := x1) (H1 := H1) C.2.2.2.2.2.2.2 C.2.2.2.2.2.2.1 hH hS hL hst h1 h2 (w := x.toNat) (by omega) hkd a1 a2 a3 k'
  split at hw
  · have hc : kd = 9 ∨ kd = 10 ∨ kd = 11 := by omega
    rcases hc with rfl | rfl | rfl
    · have e9 : (z_mk σ 9 x.toNat).2.2.1 ((σ.1 : Int) + 1) = (9, x.toNat) := z_mk_shs
      have hcel : z_cel ca ad (z_mk σ 9 x.toNat) ((σ.1 : Int) + 1) = .inl (ca 0, x.toNat, .inl (fun _ => Int32.ofInt 0)) := by
        rw [z_cel9 (by rw [e9]), e9]
        simp only [z_mk_ms]
      refine va_newa (atype := .int) (ty := .int) (a0 := (x.toNat, .inl (fun _ => Int32.ofInt 0))) C.1 C.2.1 (hts _ (z_wd_in hw)) rfl hK hH.1 z_D hS hA9 (fun _ => rfl) hn0 hcl (by show x.toNat * 4 ≤ _; omega) (by omega) (by omega) hd (fun x1 cA H1 a0 a1 a2 a3 => ?_)
      have ec : cA = ca 0 := z_arr (Or.inl rfl) (a0.2 4 (cA, .int) rfl).2 (hK.2 0 (ca 0, .int) rfl).2
      subst ec
      rw [← hcel] at a1 a2
      exact go 9 k x1 H1 (fun h => (by omega)) a1 a2 a3
    · have e9 : (z_mk σ 10 x.toNat).2.2.1 ((σ.1 : Int) + 1) = (10, x.toNat) := z_mk_shs
      have hcel : z_cel ca ad (z_mk σ 10 x.toNat) ((σ.1 : Int) + 1) = .inl (ca 1, x.toNat, .inr (.inl (fun _ => Int64.ofInt 0))) := by
        rw [z_cel10 (by rw [e9]), e9]
        simp only [z_mk_ms]
      refine va_newa (atype := .long) (ty := .long) (a0 := (x.toNat, .inr (.inl (fun _ => Int64.ofInt 0)))) C.1 C.2.1 (hts _ (z_wd_in hw)) rfl hK hH.1 z_D hS hA9 (fun _ => rfl) hn0 hcl (by show x.toNat * 8 ≤ _; omega) (by omega) (by omega) hd (fun x1 cA H1 a0 a1 a2 a3 => ?_)
      have ec : cA = ca 1 := z_arr (Or.inr (Or.inl rfl)) (a0.2 4 (cA, .long) rfl).2 (hK.2 1 (ca 1, .long) rfl).2
      subst ec
      rw [← hcel] at a1 a2
      exact go 10 k x1 H1 (fun h => (by omega)) a1 a2 a3
    · have e9 : (z_mk σ 11 x.toNat).2.2.1 ((σ.1 : Int) + 1) = (11, x.toNat) := z_mk_shs
      have hcel : z_cel ca ad (z_mk σ 11 x.toNat) ((σ.1 : Int) + 1) = .inl (ca 2, x.toNat, .inl (fun _ => Int32.ofInt 0)) := by
        rw [z_cel11 (by rw [e9]), e9]
        simp only [z_mk_ms]
      refine va_newa (atype := .boolean) (ty := .boolean) (a0 := (x.toNat, .inl (fun _ => Int32.ofInt 0))) C.1 C.2.1 (hts _ (z_wd_in hw)) rfl hK hH.1 z_D hS hA9 (fun _ => rfl) hn0 hcl (by show x.toNat * 1 ≤ _; omega) (by omega) (by omega) hd (fun x1 cA H1 a0 a1 a2 a3 => ?_)
      have ec : cA = ca 2 := z_arr (Or.inr (Or.inr rfl)) (a0.2 4 (cA, .boolean) rfl).2 (hK.2 2 (ca 2, .boolean) rfl).2
      subst ec
      rw [← hcel] at a1 a2
      exact go 11 k x1 H1 (fun h => (by omega)) a1 a2 a3
  · cases hw
theorem zs_22 {i x : Int} (C : z_C p s m args c cc nL own D ca ad B n0) (hcap : σ.1 + 1 - n0 ≤ R.cells ∧ σ.2.1 + x.toNat - s0 ≤ R.slots) (hg : z_good own isI rt cc pc (22, n, i, g, g2, q) = true) (hx : 0 ≤ x ∧ x ≤ 4000) (k : z_G p l e R s m args below meth c Q nL D ca ad B n0 s0 n ll ((2, (σ.1 : Int) + 1) :: st) (z_mk σ 12 x.toNat)) : z_G p l e R s m args below meth c Q nL D ca ad B n0 s0 pc ll ((0, x) :: st) σ := by
  obtain ⟨hd, hxx⟩ := z_good_inv hg
  intro H locs ls hH hS hL hst h1 h2
  replace hst := (List.forall_mem_cons.mp hst).2
  simp only [z_ins] at hd
  simp only [z_xtr, Bool.and_eq_true, decide_eq_true_eq] at hxx
  obtain ⟨rfl, hw⟩ := hxx
  have hts := C.2.2.2.2.1
  have hK := C.2.2.2.2.2.1.1
  have h32 : z_i32 x := by unfold z_i32; omega
  have hn0 : ¬ Int32.ofInt x < 0 := fun z => by have := (z_lt32 h32 z_i32_0).mp z; omega
  have hcl : (Int32.ofInt x).toNatClampNeg = x.toNat := by
    show (Int32.ofInt x).toInt.toNat = x.toNat
    rw [z_t32i h32]
  have hA9 : ∀ q : Nat, s.heap.size ≤ q → (fun q => B ≤ q) q := fun q hq => by rw [C.2.2.2.2.2.2.2] at hq; show B ≤ q; omega
  split at hw
  · have e9 : (z_mk σ 12 x.toNat).2.2.1 ((σ.1 : Int) + 1) = (12, x.toNat) := z_mk_shs
    have hcel : z_cel ca ad (z_mk σ 12 x.toNat) ((σ.1 : Int) + 1) = .inl (ca 3, x.toNat, .inr (.inr (.inr (.inr (fun _ => none))))) := by
      rw [z_cel12 (by rw [e9]), e9]
      simp only [z_mk_ms, C.2.2.2.2.2.2.1.1]
    refine va_newq (C := RX0) C.1 C.2.1 C.2.2.2.1 (hts _ (z_wd_in hw)) C.2.2.2.2.2.1.2.1 hK hH.1 z_D hS hA9 hn0 hcl (by omega) (by omega) (by omega) hd (fun x1 cA H1 a0 a1 a2 a3 => ?_)
    have ec : cA = ca 3 := by
      obtain ⟨_, _, _, _, _, r1⟩ := (a0.2 4 (cA, .object RX0) rfl).2
      obtain ⟨_, _, _, _, _, r2⟩ := (hK.2 3 (ca 3, .object RX0) rfl).2
      exact Option.some.inj (r1.symm.trans r2)
    subst ec
    rw [← hcel] at a1 a2
    exact z_mk_go (x := x1) (H1 := H1) C.2.2.2.2.2.2.2 C.2.2.2.2.2.2.1 hH hS hL hst h1 h2 (w := x.toNat) (by omega) (fun h => (by omega)) a1 a2 a3 k
  · cases hw
theorem zs_23 {i a : Int} (C : z_C p s m args c cc nL own D ca ad B n0) (hR : 1 ≤ R.frames ∧ 32 ≤ R.locals) (hg : z_good own isI rt cc pc (23, n, i, g, g2, q) = true) (ha : 0 < a ∧ (σ.2.2.1 a).1 < 9 ∧ st.length ≤ 4) (k : z_G p l e R s m args below meth c Q nL D ca ad B n0 s0 n ll st σ) : z_G p l e R s m args below meth c Q nL D ca ad B n0 s0 pc ll ((2, a) :: st) σ := by
  obtain ⟨hd, hxx⟩ := z_good_inv hg
  intro H locs ls hH hS hL hst h1 h2
  replace hst := (List.forall_mem_cons.mp hst).2
  simp only [z_ins] at hd
  simp only [z_xtr, Bool.and_eq_true, decide_eq_true_eq] at hxx
  obtain ⟨rfl, hw⟩ := hxx
  have hts := C.2.2.2.2.1
  have hsum := z_sum4 (ad := ad) st
  obtain ⟨j, hj, ej, had, hget⟩ := z_cell (ca := ca) C.2.2.2.2.2.2.1 hH.2.1 (a := a) (by omega) (by omega)
  split at hw
  · simp only [Bool.and_eq_true] at hw
    obtain ⟨⟨w1, w2⟩, w3⟩ := hw
    have k2 := k H locs ls hH hS hL hst h1 h2
    simp only [List.map_cons, z_cv2, had]
    exact W.objInit C.1 C.2.1 C.2.2.2.1 (hts _ (z_wd_in w1)) (hts _ (z_wd_in w2)) (hts _ (z_wd_in w3)) rfl (by rw [C.2.2.1]; exact hL.1) rfl hd hR.1 (by show 2 * 0 + _ + 12 ≤ _; omega) k2
  · cases hw
end ZS
