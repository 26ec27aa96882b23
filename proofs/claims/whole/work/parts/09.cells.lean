section ZS
variable {p : Program} {l : Launch} {e : Env} {R : Room} {s : State} {m : MethodId} {args : Array Value} {below : List Frame} {meth : Method} {c : Code} {Q : State → Prop}
variable {cc : ByteArray} {nL : Nat} {own : String} {D : va_G} {ca : Nat → ClassId} {ad : Int → Option Nat} {B n0 s0 : Nat}
variable {isI : Bool} {rt : Option FieldType} {pc n : Nat} {ll st : List zV} {σ : zS} {g g2 g3 : Int} {q : List (Int × Int)}
/-- how large the heap is, inside a walk -/
theorem z_sized {H : Heap} {locs : List Loc} {f : JFrame} (hs : s.heap.size = B + n0) (hn : n0 ≤ σ.1) (hP : va_P D vwCl (z_ws ca ad B σ) H) (hS : va_S (fun q => B ≤ q) s.heap H locs) {cs sl : Nat} (hcs : cs = σ.1 - n0) (k : H.size = B + σ.1 → W p l e R s m args below meth c H locs cs sl Q f) : W p l e R s m args below meth c H locs cs sl Q f := by
  intro T hT X
  refine k ?_ T hT X
  have h1 := X.heapSize
  rw [hT] at h1
  have h2 : B + σ.1 ≤ H.size := by
    by_cases h0 : σ.1 = 0
    · have := hS.1
      omega
    · have := (hP (σ.1 - 1) _ (z_ws_get (by omega))).lt
      simp only at this
      omega
  omega
theorem z_cel_ne {a i x b : Int} (h : b ≠ a) : z_cel ca ad (σ.1, σ.2.1, σ.2.2.1, z_upd σ.2.2.2 a i x) b = z_cel ca ad σ b := by
  have e : ∀ j : Int, z_upd σ.2.2.2 a i x b j = σ.2.2.2 b j := fun j => by simp [z_upd, h]
  unfold z_cel
  simp only [e]
theorem z_ws_upd {a i x : Int} {j : Nat} (hj : j < σ.1) (ha : a = (j : Int) + 1) : (z_ws ca ad B σ).set j (B + j, z_cel ca ad (σ.1, σ.2.1, σ.2.2.1, z_upd σ.2.2.2 a i x) a) = z_ws ca ad B (σ.1, σ.2.1, σ.2.2.1, z_upd σ.2.2.2 a i x) := by
  apply List.ext_getElem?
  intro k
  by_cases hk : k < σ.1
  · rw [z_ws_get (σ := (σ.1, σ.2.1, σ.2.2.1, z_upd σ.2.2.2 a i x)) hk]
    by_cases e : k = j
    · subst e
      rw [List.getElem?_set_self (by simpa [z_ws] using hk), ← ha]
    · rw [List.getElem?_set_ne (fun z => e z.symm), z_ws_get hk, z_cel_ne (by omega)]
  · rw [List.getElem?_eq_none (by simp [z_ws]; omega), List.getElem?_eq_none (by simp [z_ws]; omega)]
theorem z_ok_upd {a i x : Int} (hok : z_ok σ) (h1 : a ≠ -1) (hr : ∀ k : Nat, i = (k : Int) → z_rng (z_mt (σ.2.2.1 a).1 k) x) : z_ok (σ.1, σ.2.1, σ.2.2.1, z_upd σ.2.2.2 a i x) := by
  refine ⟨hok.1, hok.2.1, hok.2.2.1, hok.2.2.2.1, fun b k hb => ?_⟩
  show z_rng (z_mt (σ.2.2.1 b).1 k) (z_upd σ.2.2.2 a i x b k)
  unfold z_upd
  split
  · rename_i h
    obtain ⟨rfl, h⟩ := h
    exact hr k h.symm
  · exact hok.2.2.2.2 b k hb
theorem z_X_upd {a i x : Int} {U : State} {H : Heap} (h : z_X ad B σ U H) (h1 : a ≠ -1) : z_X ad B (σ.1, σ.2.1, σ.2.2.1, z_upd σ.2.2.2 a i x) U H := by
  obtain ⟨b, e1, e2, e3⟩ := h
  have e : ∀ j : Int, z_upd σ.2.2.2 a i x (-1) j = σ.2.2.2 (-1) j := fun j => by unfold z_upd; rw [if_neg (fun z => h1 z.1.symm)]
  refine ⟨b, e1, e2, ?_⟩
  simp only [e]
  exact e3
theorem z_X_kept {U : State} {H H1 : Heap} {locs : List Loc} {H0 : Heap} {locs1 : List Loc} (h : z_X ad B σ U H) (hB : B ≤ H0.size) (hS : va_S (fun q => B ≤ q) H0 H locs) (hS1 : va_S (fun q => B ≤ q) H0 H1 locs1) : z_X ad B σ U H1 := by
  obtain ⟨b, e1, e2, e3⟩ := h
  refine ⟨b, e1, e2, e3.kept ?_⟩
  rw [hS.2.1 b (by omega) (by show ¬ B ≤ b; omega), hS1.2.1 b (by omega) (by show ¬ B ≤ b; omega)]
theorem z_cel_obj {a : Int} (h : (σ.2.2.1 a).1 < 9) : z_cel ca ad σ a = .inr ((σ.2.2.1 a).1, (List.range (σ.2.2.1 a).2).map (fun j => z_fv ad (z_mt (σ.2.2.1 a).1 j) (σ.2.2.2 a (j : Int)))) := by
  unfold z_cel
  rw [if_neg (by omega), if_neg (by omega), if_neg (by omega), if_neg (by omega)]
theorem z_fv_st {t : Nat} {x : Int} : z_fv ad t x = z_cv ad (z_st t, x) := by
  unfold z_cv z_st z_fv
  by_cases h : t = 3
  · simp [h]
  · simp [h]
theorem z_ok_st {t : Nat} {x : Int} (h : z_rng t x) : z_okv (z_st t, x) := by
  unfold z_st
  by_cases h3 : t = 3
  · rw [if_pos h3]; exact ⟨fun _ => h.1 (Or.inr h3), fun z => (by cases z)⟩
  · rw [if_neg h3]; exact ⟨fun z => h.1 (Or.inl z), fun z => h.2 z⟩
theorem z_rng_st {t : Nat} {x : Int} (h : z_okv (z_st t, x)) : z_rng t x := by
  unfold z_st at h
  by_cases h3 : t = 3
  · rw [if_pos h3] at h; exact ⟨fun _ => h.1 rfl, fun z => (by omega)⟩
  · rw [if_neg h3] at h; exact ⟨fun z => h.1 (by rcases z with z | z <;> first | exact z | exact absurd z h3), h.2⟩
theorem zs_15 {ci k t a : Int} (C : z_C p s m args c cc nL own D ca ad B n0) (hg : z_good own isI rt cc pc (15, n, ci, k, t, q) = true) (ha : ((σ.2.2.1 a).1 : Int) = ci) (kk : z_G p l e R s m args below meth c Q nL D ca ad B n0 s0 n ll ((z_st t.toNat, σ.2.2.2 a k) :: st) σ) : z_G p l e R s m args below meth c Q nL D ca ad B n0 s0 pc ll ((2, a) :: st) σ := by
  obtain ⟨hd, hxx⟩ := z_good_inv hg
  intro H locs ls hH hS hL hst h1 h2
  obtain ⟨-, hst⟩ := List.forall_mem_cons.mp hst
  cases q with
  | nil => exact absurd hxx (by simp [z_xtr])
  | cons iw q =>
    obtain ⟨i, w⟩ := iw
    simp only [z_ins] at hd
    simp only [z_xtr, Bool.and_eq_true, decide_eq_true_eq] at hxx
    obtain ⟨⟨rfl, c0, c9, k0, kN, ht⟩, hw⟩ := hxx
    obtain ⟨hc, hin, -, -, hN⟩ := z_cls c0 c9
    have hk9 : (σ.2.2.1 a).1 < 9 := by omega
    have ha1 : a ≠ -1 := fun z => by rw [z, hH.2.1.2.2.2.1] at hk9; omega
    obtain ⟨j, hj, ej, had, hget⟩ := z_cell (ca := ca) C.2.2.2.2.2.2.1 hH.2.1 (by omega) ha1
    have hci : (σ.2.2.1 a).1 = ci.toNat := by omega
    have hlen := hH.2.1.2.1 a hk9
    rw [z_cel_obj hk9, hci] at hget
    have hkl : k.toNat < (σ.2.2.1 a).2 := by rw [hlen, hci, ← hN]; omega
    have ek : ((k.toNat : Nat) : Int) = k := by omega
    have hrng : z_rng (z_mt ci.toNat k.toNat) (σ.2.2.2 a k) := by
      have := hH.2.1.2.2.2.2 a k.toNat (by omega)
      rw [hci, ek] at this
      exact this
    have et : t.toNat = z_mt ci.toNat k.toNat := by omega
    rw [et] at kk
    have k2 := kk H locs ls hH hS hL (z_all1 (z_ok_st hrng) hst) h1 h2
    rw [List.map_cons, z_cv2, had]
    refine va_get (v := z_fv ad (z_mt ci.toNat k.toNat) (σ.2.2.2 a k)) C.1 C.2.1 C.2.2.2.2.1 hin C.2.2.2.1 C.2.2.2.2.2.1.1 hH.1 j hget hc k.toNat (by omega) (C.2.2.2.2.1 _ (z_wd_in hw)) (fun _ h => h) ?_ hd ?_
    · rw [List.getElem?_map, List.getElem?_range hkl]
      simp only [Option.map_some, ek]
    · rw [z_fv_st]
      exact k2
theorem z_narrow {F : FieldType} {x : Int} (hf : z_fitv (z_tag F) x = true) (hF : F = .int ∨ F = .long ∨ F = .boolean ∨ (∃ C, F = .object C) ∨ ∃ T, F = .array T) (hn : z_tag F = 2 → ad x ≠ none ∨ ad x = none) : narrow F (z_fv ad (z_tag F) x) = z_fv ad (z_tag F) x ∧ fits F (z_fv ad (z_tag F) x) = true := by
  rcases hF with rfl | rfl | rfl | ⟨C, rfl⟩ | ⟨T, rfl⟩
  · exact ⟨rfl, rfl⟩
  · exact ⟨rfl, rfl⟩
  · have h : x = 0 ∨ x = 1 := by simpa [z_fitv, z_tag] using hf
    rcases h with rfl | rfl
    · show narrow .boolean (.int (Int32.ofInt 0)) = .int (Int32.ofInt 0) ∧ fits .boolean (.int (Int32.ofInt 0)) = true
      exact ⟨by decide, by decide⟩
    · show narrow .boolean (.int (Int32.ofInt 1)) = .int (Int32.ofInt 1) ∧ fits .boolean (.int (Int32.ofInt 1)) = true
      exact ⟨by decide, by decide⟩
  · show narrow (.object C) (va_rf (ad x)) = va_rf (ad x) ∧ fits (.object C) (va_rf (ad x)) = true
    cases ad x <;> exact ⟨rfl, rfl⟩
  · show narrow (.array T) (va_rf (ad x)) = va_rf (ad x) ∧ fits (.array T) (va_rf (ad x)) = true
    cases ad x <;> exact ⟨rfl, rfl⟩
theorem z_tyF_is : ∀ ci, ci < 9 → ∀ k, k < z_N ci → z_tyF ci k = .int ∨ z_tyF ci k = .long ∨ z_tyF ci k = .boolean ∨ (∃ C, z_tyF ci k = .object C) ∨ ∃ T, z_tyF ci k = .array T := by
  have h : ∀ F : FieldType, (match F with | .int => true | .long => true | .boolean => true | .object _ => true | .array _ => true | _ => false) = true → F = .int ∨ F = .long ∨ F = .boolean ∨ (∃ C, F = .object C) ∨ ∃ T, F = .array T := by
    intro F hF
    cases F <;> first | (cases hF; done) | simp
  have h2 : ∀ ci, ci < 9 → ∀ k, k < z_N ci → (match z_tyF ci k with | .int => true | .long => true | .boolean => true | .object _ => true | .array _ => true | _ => false) = true := by decide +kernel
  exact fun ci hc k hk => h _ (h2 ci hc k hk)
theorem z_mt_obj {ci k : Nat} (h : ci < 9) : z_mt ci k = z_tag (z_tyF ci k) := by
  match ci, h with
  | 0, _ => rfl
  | 1, _ => rfl
  | 2, _ => rfl
  | 3, _ => rfl
  | 4, _ => rfl
  | 5, _ => rfl
  | 6, _ => rfl
  | 7, _ => rfl
  | 8, _ => rfl
theorem z_map_set {N k : Nat} {f h : Nat → Value} {v : Value} (hk : k < N) (h1 : h k = v) (h2 : ∀ j, j ≠ k → h j = f j) : (List.range N).map h = ((List.range N).map f).set k v := by
  apply List.ext_getElem?
  intro j
  by_cases hj : j < N
  · rw [List.getElem?_map, List.getElem?_range hj]
    by_cases e : j = k
    · subst e
      rw [List.getElem?_set_self (by simpa using hj)]
      simp [h1]
    · rw [List.getElem?_set_ne (fun z => e z.symm), List.getElem?_map, List.getElem?_range hj]
      simp [h2 j e]
  · rw [List.getElem?_eq_none (by simp; omega), List.getElem?_eq_none (by simp; omega)]
theorem zs_16 {ci k t a x : Int} {u : Nat} (C : z_C p s m args c cc nL own D ca ad B n0) (hin2 : isI = true → meth.name = "<init>") (hg : z_good own isI rt cc pc (16, n, ci, k, t, q) = true) (ha : ((σ.2.2.1 a).1 : Int) = ci) (hu : u = z_st t.toNat) (hfit : z_fitv t.toNat x = true)
    (kk : z_G p l e R s m args below meth c Q nL D ca ad B n0 s0 n ll st (σ.1, σ.2.1, σ.2.2.1, z_upd σ.2.2.2 a k x)) : z_G p l e R s m args below meth c Q nL D ca ad B n0 s0 pc ll ((u, x) :: (2, a) :: st) σ := by
  obtain ⟨hd, hxx⟩ := z_good_inv hg
  intro H locs ls hH hS hL hst h1 h2
  obtain ⟨hxo, hst⟩ := List.forall_mem_cons.mp hst
  obtain ⟨-, hst⟩ := List.forall_mem_cons.mp hst
  cases q with
  | nil => exact absurd hxx (by simp [z_xtr])
  | cons iw q =>
    obtain ⟨i, w⟩ := iw
    simp only [z_ins] at hd
    simp only [z_xtr, Bool.and_eq_true, decide_eq_true_eq] at hxx
    obtain ⟨⟨⟨rfl, c0, c9, k0, kN, ht⟩, hw⟩, hfin⟩ := hxx
    obtain ⟨hc, hin, hty, hnm, hN⟩ := z_cls c0 c9
    have hk9 : (σ.2.2.1 a).1 < 9 := by omega
    have ha1 : a ≠ -1 := fun z => by rw [z, hH.2.1.2.2.2.1] at hk9; omega
    obtain ⟨j, hj, ej, had, hget⟩ := z_cell (ca := ca) C.2.2.2.2.2.2.1 hH.2.1 (by omega) ha1
    have hci : (σ.2.2.1 a).1 = ci.toNat := by omega
    have hlen := hH.2.1.2.1 a hk9
    rw [z_cel_obj hk9, hci] at hget
    have hkl : k.toNat < (σ.2.2.1 a).2 := by rw [hlen, hci, ← hN]; omega
    have ek : ((k.toNat : Nat) : Int) = k := by omega
    have et : t.toNat = z_mt ci.toNat k.toNat := by omega
    have htag : z_mt ci.toNat k.toNat = z_tag (z_tyF ci.toNat k.toNat) := z_mt_obj (by omega)
    have hrng : z_rng (z_mt ci.toNat k.toNat) x := by
      rw [hu, et] at hxo
      exact z_rng_st hxo
    rw [et, htag] at hfit
    obtain ⟨hnar, hfits⟩ := z_narrow (ad := ad) hfit (z_tyF_is ci.toNat (by omega) k.toNat (by rw [← hN]; omega)) (fun _ => by cases ad x <;> simp)
    rw [List.map_cons, List.map_cons, z_cv2, had, hu, et, ← z_fv_st, htag]
    have hfs : k.toNat < ((List.range (σ.2.2.1 a).2).map (fun j => z_fv ad (z_mt ci.toNat j) (σ.2.2.2 a (j : Int)))).length := by simpa using hkl
    have hcel : z_cel ca ad (σ.1, σ.2.1, σ.2.2.1, z_upd σ.2.2.2 a k x) a = .inr (ci.toNat, ((List.range (σ.2.2.1 a).2).map (fun j => z_fv ad (z_mt ci.toNat j) (σ.2.2.2 a (j : Int)))).set k.toNat (z_fv ad (z_tag (z_tyF ci.toNat k.toNat)) x)) := by
      rw [z_cel_obj (σ := (σ.1, σ.2.1, σ.2.2.1, z_upd σ.2.2.2 a k x)) hk9]
      show Sum.inr ((σ.2.2.1 a).1, (List.range (σ.2.2.1 a).2).map (fun j => z_fv ad (z_mt (σ.2.2.1 a).1 j) (z_upd σ.2.2.2 a k x a (j : Int)))) = _
      rw [hci, z_map_set hkl ?_ ?_]
      · unfold z_upd
        rw [if_pos ⟨rfl, ek⟩, htag]
      · intro j2 hj2
        unfold z_upd
        rw [if_neg (fun z => hj2 (by omega))]
    have fin : ∀ (H1 : Heap) (locs1 : List Loc), va_P D vwCl ((z_ws ca ad B σ).set j (B + j, .inr (ci.toNat, ((List.range (σ.2.2.1 a).2).map (fun j => z_fv ad (z_mt ci.toNat j) (σ.2.2.2 a (j : Int)))).set k.toNat (z_fv ad (z_tag (z_tyF ci.toNat k.toNat)) x)))) H1 → va_S (fun q => B ≤ q) s.heap H1 locs1 → W p l e R s m args below meth c H1 locs1 (σ.1 - n0) (σ.2.1 - s0) Q (F0 m (pc + 3) ls (st.map (z_cv ad))) := by
      intro H1 locs1 hP1 hS1
      rw [← hcel, z_ws_upd hj ej] at hP1
      refine kk H1 locs1 ls ⟨hP1, z_ok_upd hH.2.1 ha1 (fun k2 e2 => ?_), z_X_upd (z_X_kept hH.2.2.1 (by rw [C.2.2.2.2.2.2.2]; omega) hS hS1) ha1, z_E_kept hH.2.2.2 (by rw [C.2.2.2.2.2.2.2]; omega) hS hS1⟩ hS1 hL hst h1 h2
      rw [show k2 = k.toNat by omega, hci]
      exact hrng
    by_cases hf : ((z_cl ci).2.1 k.toNat).2.2.2 = true
    · rw [if_pos hf, Bool.and_eq_true, decide_eq_true_eq] at hfin
      exact va_putF C.1 C.2.1 C.2.2.2.2.1 hin (z_tyF ci.toNat) hty hnm C.2.2.2.1 C.2.2.2.2.2.1.1 hH.1 z_D hS j hget hc k.toNat (by omega) (C.2.2.2.2.1 _ (z_wd_in hw)) (fun _ h => h) hf (hin2 hfin.1) hfin.2 (hty k.toNat (by omega)) hnar hfits hfs hd (fun H1 locs1 a1 _ a3 => fin H1 locs1 a1 a3)
    · exact va_put C.1 C.2.1 C.2.2.2.2.1 hin (z_tyF ci.toNat) hty hnm C.2.2.2.1 C.2.2.2.2.2.1.1 hH.1 z_D hS j hget hc k.toNat (by omega) (C.2.2.2.2.1 _ (z_wd_in hw)) (fun _ h => h) (by simpa using hf) (hty k.toNat (by omega)) hnar hfits hfs hd (fun H1 locs1 a1 _ a3 => fin H1 locs1 a1 a3)
end ZS
