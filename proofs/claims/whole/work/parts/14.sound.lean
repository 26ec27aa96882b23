/-- what a run of the small machine says of the machine -/
def z_Run (cd : Nat → Nat → zO) (ml : Nat → Nat) (mi : Nat → zI) (NM : Nat) (f : Nat) : Prop :=
  ∀ (d k pc : Nat) (ll st : List zV) (σ : zS) (rv : Option zV) (σ' : zS), z_ex cd ml f d k pc ll st σ = some (rv, σ') →
  ∀ (p : Program) (l : Launch) (e : Env) (R : Room) (s : State) (m : MethodId) (args : Array Value) (below : List Frame) (meth : Method) (c : Code) (Q : State → Prop) (D : va_G) (ca : Nat → ClassId) (ad : Int → Option Nat) (B n0 s0 : Nat) (own : String) (cc : ByteArray) (isI : Bool) (rt : Option FieldType),
  (∀ pc, z_opok mi NM own isI rt cc pc (cd k pc) = true) → z_C p s m args c cc (ml k) own D ca ad B n0 → d + 1 ≤ R.frames → 40 * (d + 1) ≤ R.locals → (σ'.1 - n0 ≤ R.cells ∧ σ'.2.1 - s0 ≤ R.slots) → (isI = true → meth.name = "<init>") →
  (∀ (pc' : Nat) (ll' st' : List zV), (cd k pc').1 = 26 → z_ret (cd k pc').2.2.1 st' = some rv → z_G p l e R s m args below meth c Q (ml k) D ca ad B n0 s0 pc' ll' st' σ') →
  z_G p l e R s m args below meth c Q (ml k) D ca ad B n0 s0 pc ll st σ
/-- every method of the table is as the tables say -/
def z_All (cd : Nat → Nat → zO) (ml : Nat → Nat) (mi : Nat → zI) (NM : Nat) : Prop := ∀ k, k < NM → z_mok (mi k) (ml k) = true ∧ ∀ pc, z_opok mi NM (mi k).1.cls (decide ((mi k).1.name = "<init>")) (mi k).2.2.1 (mi k).2.1 pc (cd k pc) = true
/-- a method's contract out of a run -/
theorem z_met {cd : Nat → Nat → zO} {ml : Nat → Nat} {mi : Nat → zI} {NM : Nat} {f : Nat} (hall : z_All cd ml mi NM) (ih : z_Run cd ml mi NM f) {d k : Nat} (hk : k < NM) {vs : List zV} {σ σ' : zS} {rv : Option zV} (h : z_ex cd ml f d k 0 (z_ent (ml k) vs) [] σ = some (rv, σ')) (h3 : ∀ v ∈ vs, v.1 < 3) (hok : ∀ v ∈ vs, z_okv v) (hlen : (z_sl vs).length ≤ ml k)
    (l : Launch) {D : va_G} {ca : Nat → ClassId} {ad : Int → Option Nat} {B : Nat} (hA : z_A ad B) :
    Met l (mi k).1 (.code (mi k).1 (mi k).2.1 (ml k) (mi k).2.2.1 :: z_T) (z_room d (σ'.1 - σ.1) (σ'.2.1 - σ.2.1)) (z_Pc D ca ad B σ vs) (z_Qc D ca ad B σ' rv) (σ'.1 - σ.1) (σ'.2.1 - σ.2.1) (fun q => B ≤ q) := by
  obtain ⟨hm, ho⟩ := hall k hk
  simp only [z_mok, Bool.and_eq_true, decide_eq_true_eq] at hm
  obtain ⟨⟨⟨⟨w0, w3⟩, hpl⟩, hcl1, hcl2, hnp, hml⟩, hw⟩ := hm
  refine Met.ofW (cc := (mi k).2.1) (maxL := ml k) (ret := (mi k).2.2.1) hpl rfl ?_
  intro p e s m args below meth c s₁ Bd hmL hv
  obtain ⟨rfl, hsz, hK, hH⟩ := hv
  have hts : ∀ w ∈ z_T, w.before (vs.map (z_cv ad)).toArray s = true := fun w hw => atoms_spec (ws := .code (mi k).1 (mi k).2.1 (ml k) (mi k).2.2.1 :: z_T) Bd.pre w (List.mem_cons_of_mem _ hw)
  have hown : s.vm.findClass (mi k).1.cls = some m.cls := findClass_of_methodNamed Bd.named
  have C : z_C p s m (vs.map (z_cv ad)).toArray c (mi k).2.1 (ml k) (mi k).1.cls D ca ad B σ.1 := ⟨Bd.exec, Bd.bytes, hmL, hown, hts, hK, hA, hsz⟩
  have hin2 : decide ((mi k).1.name = "<init>") = true → meth.name = "<init>" := fun z => by
    rw [decide_eq_true_eq] at z
    rw [(name_of_methodNamed Bd.named Bd.method).1]
    exact z
  have G := ih d k 0 (z_ent (ml k) vs) [] σ rv σ' h p l e (headSpec (.code (mi k).1 (mi k).2.1 (ml k) (mi k).2.2.1 :: z_T) (z_room d (σ'.1 - σ.1) (σ'.2.1 - σ.2.1))).room s m (vs.map (z_cv ad)).toArray below meth c (MQ below (z_Qc D ca ad B σ' rv) (vs.map (z_cv ad)).toArray s (σ'.1 - σ.1) (σ'.2.1 - σ.2.1) (fun q => B ≤ q)) D ca ad B σ.1 σ.2.1 (mi k).1.cls (mi k).2.1 (decide ((mi k).1.name = "<init>")) (mi k).2.2.1 ho C (Nat.le_refl _) (Nat.le_refl _) ⟨Nat.le_refl _, Nat.le_refl _⟩ hin2 ?_
  · rw [lg_entry_eq]
    have := G s.heap [] _ hH va_S.rf (z_entry h3 hok hlen) (fun v hv => by cases hv) (Nat.le_refl _) (Nat.le_refl _)
    rw [Nat.sub_self, Nat.sub_self] at this
    exact this
  · intro pc' ll' st' h26 hret
    have hop := ho pc'
    generalize cd k pc' = o at h26 hret hop
    obtain ⟨oc, n, a, b, cx, q⟩ := o
    cases h26
    have hg : z_good (mi k).1.cls (decide ((mi k).1.name = "<init>")) (mi k).2.2.1 (mi k).2.1 pc' (26, n, a, b, cx, q) = true := hop
    exact zs_26 C Bd.notSynchronized Bd.returns hg hret
theorem z_run {cd : Nat → Nat → zO} {ml : Nat → Nat} {mi : Nat → zI} {NM : Nat} (hall : z_All cd ml mi NM) : ∀ f, z_Run cd ml mi NM f := by
  intro f
  induction f with
  | zero =>
    intro d k pc ll st σ rv σ' h
    simp [z_ex] at h
  | succ f ih =>
    intro d k pc ll st σ rv σ' h p l e R s m args below meth c Q D ca ad B n0 s0 own cc isI rt ho C hfr hlo hcap hin2 hret
    have hop := ho pc
    have hre := hret pc
    unfold z_ex at h
    generalize cd k pc = o at h hop hre
    split at h
    · rename_i n kk na kd q
      split at h
      · cases h
      · rename_i d'
        split at h
        · rename_i hcnd
          obtain ⟨hna, hst4, hrcv, hsl, hall3⟩ := hcnd
          split at h
          · rename_i rv1 σ1 hcall
            have hcok : z_cok mi NM own cc pc (25, n, kk, na, kd, q) = true := hop
            match q, hcok with
            | (i, w) :: (fm, w2) :: q, hcok =>
              simp only [z_cok, Bool.and_eq_true, decide_eq_true_eq] at hcok
              obtain ⟨⟨hd, rfl, hk0, hkN, hkd, hnae, hfm⟩, hlink⟩ := hcok
              have hkM : kk.toNat < NM := by omega
              obtain ⟨hm, -⟩ := hall kk.toNat hkM
              simp only [z_mok, Bool.and_eq_true, decide_eq_true_eq] at hm
              obtain ⟨⟨⟨⟨w0, w3⟩, hpl⟩, hcl1, hcl2, hnp, hml⟩, hw⟩ := hm
              have m1 := z_ex_mono f _ _ _ _ _ _ _ _ hcall
              have m2 := z_ex_mono f _ _ _ _ _ _ _ _ h
              have G2 := ih (d' + 1) k (pc + 3) ll (rv1.toList ++ st.drop na.toNat) σ1 rv σ' h p l e R s m args below meth c Q D ca ad B n0 s0 own cc isI rt ho C hfr hlo hcap hin2 hret
              intro H locs ls hH hS hL hst h1 h2
              have hA := C.2.2.2.2.2.2.1
              have hts := C.2.2.2.2.1
              have hs := C.2.2.2.2.2.2.2
              have hargs : ∀ v ∈ (st.take na.toNat).reverse, v.1 < 3 := fun v hv => by
                have := List.all_eq_true.mp hall3 v (List.mem_reverse.mp hv)
                simpa using this
              have hargok : ∀ v ∈ (st.take na.toNat).reverse, z_okv v := fun v hv => hst v (List.mem_of_mem_take (List.mem_reverse.mp hv))
              have hM := z_met hall ih hkM hcall hargs hargok hsl l (D := D) (ca := ca) hA
              have hrest : ∀ v ∈ st.drop na.toNat, z_okv v := fun v hv => hst v (List.mem_of_mem_drop hv)
              have hsum := z_sumc (ad := ad) (st.drop na.toNat)
              have cb : CallB R s args own i.toNat (mi kk.toNat).1 (mi kk.toNat).2.1 (ml kk.toNat) (mi kk.toNat).2.2.1 (.code (mi kk.toNat).1 (mi kk.toNat).2.1 (ml kk.toNat) (mi kk.toNat).2.2.1 :: z_T) (z_room d' (σ1.1 - σ.1) (σ1.2.1 - σ.2.1)) (σ1.1 - σ.1) (σ1.2.1 - σ.2.1) (mi kk.toNat).2.2.2.2.1 :=
                callB_of _ hts (z_goodIn (z_wd_in w0)) rfl rfl rfl (hts _ (z_wd_in w3)) (hts _ (z_wd_in hlink)) ⟨hcl1, hcl2, hnp⟩ ⟨by show d' + 1 + 1 ≤ _; omega, by show 8 + (ml kk.toNat + 11) + 40 * (d' + 1) ≤ _; omega⟩
              refine z_sized hs h1 hH.1 hS rfl (fun hsize => ?_)
              have hpre : ∀ U : State, U.heap = H → s.WarmedH U.vm → z_Pc D ca ad B σ (st.take na.toNat).reverse ((st.take na.toNat).reverse.map (z_cv ad)).toArray U := fun U hU hW => ⟨rfl, by rw [hU]; exact hsize, z_U_warm hW C.2.2.2.2.2.1, by rw [hU]; exact z_H_moved hW.alike hH⟩
              have hroom : 2 * (F0 m pc ls (st.map (z_cv ad))).monitorRoom + (((st.drop na.toNat).map (z_cv ad)).map fun v => v.category).sum ≤ 8 := lv_room (by omega)
              have hfit : σ.1 - n0 + (σ1.1 - σ.1) ≤ R.cells ∧ σ.2.1 - s0 + (σ1.2.1 - σ.2.1) ≤ R.slots := by omega
              have hstk : st.map (z_cv ad) = ((st.take na.toNat).reverse.map (z_cv ad)).reverse ++ (st.drop na.toNat).map (z_cv ad) := by
                rw [List.map_reverse, List.reverse_reverse, ← List.map_append, List.take_append_drop]
              simp only [z_ins] at hd
              by_cases hsta : kd = -1
              · rw [if_pos hsta] at hd hnae
                rw [← hkd, if_pos hsta] at hw
                refine z_back hs (va_runS (As := (st.take na.toNat).reverse.map (z_cv ad)) ⟨C.1, C.2.1, C.2.2.1, C.2.2.2.1, hts⟩ hM ⟨cb, hts _ (z_wd_in hw)⟩ ⟨z_blind, hpre⟩ rfl (by simp; omega) hL.1 hstk hroom hd hfit) hS hL hrest h1 h2 m1 rfl rfl G2
              · rw [if_neg hsta] at hd hnae
                rw [← hkd, if_neg hsta] at hw
                simp only [Bool.and_eq_true, decide_eq_true_eq] at hw
                obtain ⟨⟨⟨k0, k9, hcn⟩, winst⟩, hsel⟩ := hw
                unfold z_rcv at hrcv
                rw [if_neg hsta] at hrcv
                cases hal : (st.take na.toNat).reverse with
                | nil => rw [hal] at hrcv; simp at hrcv
                | cons v as =>
                  obtain ⟨vt, va⟩ := v
                  rw [hal] at hrcv
                  have hvt : vt = 2 := by
                    by_cases z : vt = 2
                    · exact z
                    · exfalso
                      split at hrcv
                      · rename_i hh; cases hh; exact z rfl
                      · cases hrcv
                  subst hvt
                  simp only [decide_eq_true_eq] at hrcv
                  obtain ⟨ha0, hak⟩ := hrcv
                  obtain ⟨j, hj, ej, had, hget⟩ := z_cell (ca := ca) hA hH.2.1 (a := va) (by omega) (by omega)
                  rw [z_cel_obj (by omega)] at hget
                  have hlen : as.length = (mi kk.toNat).2.2.2.2.1 := by
                    have := congrArg List.length hal
                    simp at this
                    omega
                  have hstk2 : st.map (z_cv ad) = (as.map (z_cv ad)).reverse ++ .ref (B + j) :: (st.drop na.toNat).map (z_cv ad) := by
                    rw [hstk, hal, List.map_cons, z_cv2, had, List.reverse_cons, List.append_assoc]
                    rfl
                  have hpre2 : ∀ U : State, U.heap = H → s.WarmedH U.vm → z_Pc D ca ad B σ (st.take na.toNat).reverse (Value.ref (B + j) :: as.map (z_cv ad)).toArray U := fun U hU hW => by
                    have := hpre U hU hW
                    rw [hal, List.map_cons, z_cv2, had] at this
                    rw [hal]
                    exact this
                  by_cases hinit : (mi kk.toNat).1.name = "<init>"
                  · rw [if_pos hinit] at hfm hsel
                    subst hfm
                    simp only [decide_eq_true_eq] at hsel
                    simp only [if_true] at hd
                    rw [hsel] at cb hM
                    exact z_back hs (va_runI (b := B + j) (As := as.map (z_cv ad)) ⟨C.1, C.2.1, C.2.2.1, C.2.2.2.1, hts⟩ hM ⟨cb, hinit, hts _ (z_wd_in winst)⟩ ⟨z_blind, hpre2⟩ rfl (by simp; omega) hL.1 hstk2 hroom hd hfit) hS hL hrest h1 h2 m1 rfl rfl G2
                  · rw [if_neg hinit] at hfm hsel
                    subst hfm
                    simp only [show ¬ (0 : Int) = 1 by decide, if_false] at hd
                    have hrecv := va_recv (q0 := j) (ci := kd.toNat) (q := z_cl kd) C.2.2.2.2.2.1.1 hH.1 (by rw [(z_cls k0 k9).1]) (by rw [hget, show (σ.2.2.1 va).1 = kd.toNat by omega])
                    rw [hcn] at hrecv
                    exact z_back hs (va_runV (b := B + j) (As := as.map (z_cv ad)) ⟨C.1, C.2.1, C.2.2.1, C.2.2.2.1, hts⟩ hM ⟨cb, hts _ (z_wd_in winst), hts _ (z_wd_in hsel)⟩ ⟨z_blind, hrecv, hpre2⟩ rfl (by simp; omega) hL.1 hstk2 hroom hd hfit) hS hL hrest h1 h2 m1 rfl rfl G2
          · cases h
        · cases h
    · split at h
      · rename_i hr
        cases h
        exact hre ll st rfl hr
      · cases h
    · rename_i n25 n26
      by_cases h30 : o.1 < 30 ∨ 5 ≤ d
      rotate_left
      · rw [if_neg h30] at h
        cases h
      rw [if_pos h30] at h
      split at h
      · rename_i pc' ll' st' σ1 hz
        have G2 := ih d k pc' ll' st' σ1 rv σ' h p l e R s m args below meth c Q D ca ad B n0 s0 own cc isI rt ho C hfr hlo hcap hin2 hret
        have m2 := z_ex_mono f _ _ _ _ _ _ _ _ h
        have hg : z_good own isI rt cc pc o = true := by
          unfold z_opok at hop
          by_cases h99 : o.1 = 99
          · exfalso
            obtain ⟨oc, o2⟩ := o
            cases h99
            simp [z_stp] at hz
          · rw [if_neg h99] at hop
            by_cases h25 : o.1 = 25
            · exfalso
              obtain ⟨oc, o1, o2, o3, o4, o5⟩ := o
              cases h25
              exact n25 _ _ _ _ _ rfl
            · rw [if_neg h25] at hop
              exact hop
        exact zs_all C ⟨by omega, by omega⟩ (h30.imp id (fun h => ⟨by omega, by omega⟩)) ⟨by omega, by omega⟩ hin2 hg hz G2
      · cases h
