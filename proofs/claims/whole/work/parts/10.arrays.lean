section ZS
variable {p : Program} {l : Launch} {e : Env} {R : Room} {s : State} {m : MethodId} {args : Array Value} {below : List Frame} {meth : Method} {c : Code} {Q : State → Prop}
variable {cc : ByteArray} {nL : Nat} {own : String} {D : va_G} {ca : Nat → ClassId} {ad : Int → Option Nat} {B n0 s0 : Nat}
variable {isI : Bool} {rt : Option FieldType} {pc n : Nat} {ll st : List zV} {σ : zS} {g g2 g3 : Int} {q : List (Int × Int)}
theorem z_cel9 {a : Int} (h : (σ.2.2.1 a).1 = 9) : z_cel ca ad σ a = .inl (ca 0, (σ.2.2.1 a).2, .inl (fun i => Int32.ofInt (σ.2.2.2 a (i : Int)))) := by
  unfold z_cel
  rw [if_pos h]
theorem z_cel10 {a : Int} (h : (σ.2.2.1 a).1 = 10) : z_cel ca ad σ a = .inl (ca 1, (σ.2.2.1 a).2, .inr (.inl (fun i => Int64.ofInt (σ.2.2.2 a (i : Int))))) := by
  unfold z_cel
  rw [if_neg (by omega), if_pos h]
theorem z_cel11 {a : Int} (h : (σ.2.2.1 a).1 = 11) : z_cel ca ad σ a = .inl (ca 2, (σ.2.2.1 a).2, .inl (fun i => Int32.ofInt (σ.2.2.2 a (i : Int)))) := by
  unfold z_cel
  rw [if_neg (by omega), if_neg (by omega), if_pos h]
theorem z_cel12 {a : Int} (h : (σ.2.2.1 a).1 = 12) : z_cel ca ad σ a = .inl (ca 3, (σ.2.2.1 a).2, .inr (.inr (.inr (.inr (fun i => ad (σ.2.2.2 a (i : Int))))))) := by
  unfold z_cel
  rw [if_neg (by omega), if_neg (by omega), if_neg (by omega), if_pos h]
theorem z_kind {a : Int} {kd : Int} (ha : ((σ.2.2.1 a).1 : Int) = kd) (h9 : 9 ≤ kd) (h12 : kd ≤ 12) : (kd = 9 ∧ (σ.2.2.1 a).1 = 9) ∨ (kd = 10 ∧ (σ.2.2.1 a).1 = 10) ∨ (kd = 11 ∧ (σ.2.2.1 a).1 = 11) ∨ (kd = 12 ∧ (σ.2.2.1 a).1 = 12) := by omega
theorem zs_17 {kd a i : Int} (C : z_C p s m args c cc nL own D ca ad B n0) (hg : z_good own isI rt cc pc (17, n, kd, g, g2, q) = true) (ha : ((σ.2.2.1 a).1 : Int) = kd) (h0 : 0 ≤ i) (hi : i < ((σ.2.2.1 a).2 : Int)) (k : z_G p l e R s m args below meth c Q nL D ca ad B n0 s0 n ll ((z_st (z_mt kd.toNat 0), σ.2.2.2 a i) :: st) σ) : z_G p l e R s m args below meth c Q nL D ca ad B n0 s0 pc ll ((0, i) :: (2, a) :: st) σ := by
  obtain ⟨hd, hxx⟩ := z_good_inv hg
  intro H locs ls hH hS hL hst h1 h2
  replace hst := (List.forall_mem_cons.mp (List.forall_mem_cons.mp hst).2).2
  simp only [z_ins] at hd
  simp only [z_xtr, decide_eq_true_eq] at hxx
  obtain ⟨rfl, k9, k12⟩ := hxx
  have ei : ((i.toNat : Nat) : Int) = i := by omega
  obtain ⟨hin, hcl⟩ := z_ix h0 hi (hH.2.1.2.2.1 a)
  have hr := hH.2.1.2.2.2.2 a i.toNat (by omega)
  rw [ei] at hr
  have hK := C.2.2.2.2.2.1.1
  by_cases ha1 : a = -1
  · subst ha1
    have h9 := hH.2.1.2.2.2.1
    rw [h9] at ha hr
    cases ha
    obtain ⟨b, e1, e2, scr, x1, x2, x3, x4, x5⟩ := hH.2.2.1
    have k2 := k H locs ls hH hS hL (z_all1 (z_ok_st hr) hst) h1 h2
    simp only [List.map_cons, z_cv2, e1]
    refine W.iald (v := .int (Int32.ofInt (σ.2.2.2 (-1) i))) C.1 C.2.1 x1 x2 x3 (by rw [x4]; exact hin) ?_ rfl rfl hd k2
    rw [hcl, x5 _ (by omega)]
    simp only [ei]
  · obtain ⟨j, hj, ej, had, hget⟩ := z_cell (ca := ca) C.2.2.2.2.2.2.1 hH.2.1 (by omega) ha1
    simp only [List.map_cons, z_cv2, had]
    rcases z_kind ha k9 k12 with ⟨rfl, e9⟩ | ⟨rfl, e9⟩ | ⟨rfl, e9⟩ | ⟨rfl, e9⟩
    · rw [z_cel9 e9] at hget
      rw [e9] at hr
      have k2 := k H locs ls hH hS hL (z_all1 (z_ok_st hr) hst) h1 h2
      refine va_iald C.1 C.2.1 hK hH.1 j 0 hget rfl hin hd ?_
      simp only [hcl, ei]
      exact k2
    · rw [z_cel10 e9] at hget
      rw [e9] at hr
      have k2 := k H locs ls hH hS hL (z_all1 (z_ok_st hr) hst) h1 h2
      refine va_lald C.1 C.2.1 hK hH.1 j 1 hget rfl hin hd ?_
      simp only [hcl, ei]
      exact k2
    · rw [z_cel11 e9] at hget
      rw [e9] at hr
      have k2 := k H locs ls hH hS hL (z_all1 (z_ok_st hr) hst) h1 h2
      refine va_zald C.1 C.2.1 hK hH.1 j 2 hget rfl hin hd ?_
      simp only [hcl, ei]
      exact k2
    · rw [z_cel12 e9] at hget
      rw [e9] at hr
      have k2 := k H locs ls hH hS hL (z_all1 (z_ok_st hr) hst) h1 h2
      refine va_aldq C.1 C.2.1 hK hH.1 j 3 hget rfl hin hd ?_
      simp only [hcl, ei]
      exact k2
theorem z_upd_s {M : zM} {a i x : Int} : z_upd M a i x a i = x := by simp [z_upd]
theorem z_upd_n {M : zM} {a i x j : Int} (h : j ≠ i) : z_upd M a i x a j = M a j := by simp [z_upd, h]
theorem zs_18 {kd a i x : Int} {u : Nat} (C : z_C p s m args c cc nL own D ca ad B n0) (hg : z_good own isI rt cc pc (18, n, kd, g, g2, q) = true) (ha : ((σ.2.2.1 a).1 : Int) = kd) (hpos : 0 < a) (h0 : 0 ≤ i) (hi : i < ((σ.2.2.1 a).2 : Int)) (hu : u = z_st (z_mt kd.toNat 0)) (hfit : z_fitv (z_mt kd.toNat 0) x = true) (href : kd = 12 → (σ.2.2.1 x).1 = 0)
    (kk : z_G p l e R s m args below meth c Q nL D ca ad B n0 s0 n ll st (σ.1, σ.2.1, σ.2.2.1, z_upd σ.2.2.2 a i x)) : z_G p l e R s m args below meth c Q nL D ca ad B n0 s0 pc ll ((u, x) :: (0, i) :: (2, a) :: st) σ := by
  obtain ⟨hd, hxx⟩ := z_good_inv hg
  intro H locs ls hH hS hL hst h1 h2
  obtain ⟨hxo, hst⟩ := List.forall_mem_cons.mp hst
  obtain ⟨-, hst⟩ := List.forall_mem_cons.mp hst
  obtain ⟨-, hst⟩ := List.forall_mem_cons.mp hst
  simp only [z_ins] at hd
  simp only [z_xtr, decide_eq_true_eq] at hxx
  obtain ⟨rfl, k9, k12⟩ := hxx
  have ei : ((i.toNat : Nat) : Int) = i := by omega
  obtain ⟨hin, hcl⟩ := z_ix h0 hi (hH.2.1.2.2.1 a)
  have hK := C.2.2.2.2.2.1.1
  have ha1 : a ≠ -1 := by omega
  obtain ⟨j, hj, ej, had, hget⟩ := z_cell (ca := ca) C.2.2.2.2.2.2.1 hH.2.1 (by omega) ha1
  have fin : ∀ (H1 : Heap) (locs1 : List Loc) (ee : va_E), ee = z_cel ca ad (σ.1, σ.2.1, σ.2.2.1, z_upd σ.2.2.2 a i x) a → (∀ k2 : Nat, z_rng (z_mt (σ.2.2.1 a).1 k2) x) → va_P D vwCl ((z_ws ca ad B σ).set j (B + j, ee)) H1 → va_S (fun q => B ≤ q) s.heap H1 locs1 → W p l e R s m args below meth c H1 locs1 (σ.1 - n0) (σ.2.1 - s0) Q (F0 m (pc + 1) ls (st.map (z_cv ad))) := by
    intro H1 locs1 ee he hr hP1 hS1
    rw [he, z_ws_upd hj ej] at hP1
    exact kk H1 locs1 ls ⟨hP1, z_ok_upd hH.2.1 ha1 (fun k2 _ => hr k2), z_X_upd (z_X_kept hH.2.2.1 (by rw [C.2.2.2.2.2.2.2]; omega) hS hS1) ha1, z_E_kept hH.2.2.2 (by rw [C.2.2.2.2.2.2.2]; omega) hS hS1⟩ hS1 hL hst h1 h2
  have hup : ∀ (α : Type) (f : Int → α) (k2 : Nat), f (z_upd σ.2.2.2 a i x a (k2 : Int)) = if k2 = i.toNat then f x else f (σ.2.2.2 a (k2 : Int)) := by
    intro α f k2
    by_cases e : k2 = i.toNat
    · rw [if_pos e, show (k2 : Int) = i by omega, z_upd_s]
    · rw [if_neg e, z_upd_n (by omega)]
  simp only [List.map_cons, z_cv2, had]
  rcases z_kind ha k9 k12 with ⟨rfl, e9⟩ | ⟨rfl, e9⟩ | ⟨rfl, e9⟩ | ⟨rfl, e9⟩
  · rw [z_cel9 e9] at hget
    subst hu
    refine va_iast (x := Int32.ofInt x) C.1 C.2.1 hK hH.1 z_D hS j 0 hget rfl hin hd (fun H1 locs1 a1 _ a3 => fin H1 locs1 _ ?_ (fun k2 => by rw [e9]; exact z_rng_st (t := 0) hxo) a1 a3)
    rw [z_cel9 (σ := (σ.1, σ.2.1, σ.2.2.1, z_upd σ.2.2.2 a i x)) e9]
    congr 4
    funext k2
    rw [hup _ Int32.ofInt k2, hcl]
    rfl
  · rw [z_cel10 e9] at hget
    subst hu
    refine va_last (x := Int64.ofInt x) C.1 C.2.1 hK hH.1 z_D hS j 1 hget rfl hin hd (fun H1 locs1 a1 _ a3 => fin H1 locs1 _ ?_ (fun k2 => by rw [e9]; exact z_rng_st (t := 1) hxo) a1 a3)
    rw [z_cel10 (σ := (σ.1, σ.2.1, σ.2.2.1, z_upd σ.2.2.2 a i x)) e9]
    congr 5
    funext k2
    rw [hup _ Int64.ofInt k2, hcl]
    rfl
  · rw [z_cel11 e9] at hget
    subst hu
    have hb : vp_nar .boolean (Int32.ofInt x) = Int32.ofInt x := by
      have h : x = 0 ∨ x = 1 := by simpa [z_fitv, z_mt] using hfit
      rcases h with rfl | rfl <;> decide
    refine va_zast (x := Int32.ofInt x) C.1 C.2.1 hK hH.1 z_D hS j 2 hget rfl hin hd (fun H1 locs1 a1 _ a3 => fin H1 locs1 _ ?_ (fun k2 => by rw [e9]; exact z_rng_st (t := 3) hxo) a1 a3)
    rw [z_cel11 (σ := (σ.1, σ.2.1, σ.2.2.1, z_upd σ.2.2.2 a i x)) e9, hb]
    congr 4
    funext k2
    rw [hup _ Int32.ofInt k2, hcl]
    rfl
  · rw [z_cel12 e9] at hget
    subst hu
    have hx0 := href rfl
    have hx1 : x ≠ -1 := fun z => by rw [z, hH.2.1.2.2.2.1] at hx0; omega
    obtain ⟨j2, hj2, ej2, had2, hget2⟩ := z_cell (ca := ca) C.2.2.2.2.2.2.1 hH.2.1 (a := x) (by omega) hx1
    rw [z_cel_obj (by omega), hx0] at hget2
    have ecv : z_cv ad (z_st (z_mt (12 : Int).toNat 0), x) = .ref (B + j2) := by
      show va_rf (ad x) = _
      rw [had2]
      rfl
    rw [ecv]
    refine va_astq (r := (RX0, TX0, 3)) C.1 C.2.1 hK hH.1 z_D hS j 3 j2 0 hget rfl hget2 rfl hin hd (fun H1 locs1 a1 _ a3 => fin H1 locs1 _ ?_ (fun k2 => by rw [e9]; exact ⟨fun z => (by rcases z with z | z <;> cases z), fun z => (by cases z)⟩) a1 a3)
    rw [z_cel12 (σ := (σ.1, σ.2.1, σ.2.2.1, z_upd σ.2.2.2 a i x)) e9]
    congr 7
    funext k2
    rw [hup _ ad k2, hcl, had2]
    rfl
theorem zs_19 {a : Int} (C : z_C p s m args c cc nL own D ca ad B n0) (hg : z_good own isI rt cc pc (19, n, g3, g, g2, q) = true) (ha : 9 ≤ (σ.2.2.1 a).1 ∧ (σ.2.2.1 a).1 ≤ 12) (k : z_G p l e R s m args below meth c Q nL D ca ad B n0 s0 n ll ((0, ((σ.2.2.1 a).2 : Int)) :: st) σ) : z_G p l e R s m args below meth c Q nL D ca ad B n0 s0 pc ll ((2, a) :: st) σ := by
  obtain ⟨hd, hxx⟩ := z_good_inv hg
  intro H locs ls hH hS hL hst h1 h2
  obtain ⟨-, hst⟩ := List.forall_mem_cons.mp hst
  simp only [z_ins] at hd
  simp only [z_xtr, decide_eq_true_eq] at hxx
  subst hxx
  have hK := C.2.2.2.2.2.1.1
  have k2 := k H locs ls hH hS hL (z_all1 (z_okI (z_nat32 (hH.2.1.2.2.1 a))) hst) h1 h2
  by_cases ha1 : a = -1
  · subst ha1
    obtain ⟨b, e1, e2, scr, x1, x2, x3, x4, x5⟩ := hH.2.2.1
    simp only [List.map_cons, z_cv2, e1]
    refine W.alen (n := Int32.ofInt ((σ.2.2.1 (-1)).2 : Int)) C.1 C.2.1 x1 x2 ?_ rfl rfl hd k2
    rw [x4]
    exact z_on
  · obtain ⟨j, hj, ej, had, hget⟩ := z_cell (ca := ca) C.2.2.2.2.2.2.1 hH.2.1 (by omega) ha1
    simp only [List.map_cons, z_cv2, had]
    rcases z_kind (σ := σ) (a := a) rfl (by omega) (by omega) with ⟨-, e9⟩ | ⟨-, e9⟩ | ⟨-, e9⟩ | ⟨-, e9⟩
    · rw [z_cel9 e9] at hget
      exact va_alen C.1 C.2.1 hK hH.1 j 0 hget rfl z_on hd k2
    · rw [z_cel10 e9] at hget
      exact va_alen C.1 C.2.1 hK hH.1 j 1 hget rfl z_on hd k2
    · rw [z_cel11 e9] at hget
      exact va_alen C.1 C.2.1 hK hH.1 j 2 hget rfl z_on hd k2
    · rw [z_cel12 e9] at hget
      exact va_alen C.1 C.2.1 hK hH.1 j 3 hget rfl z_on hd k2
end ZS
