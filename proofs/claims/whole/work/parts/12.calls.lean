/-! CALLS, RETURNS, AND THE WHOLE RUN -/
/-- a method: name, code, what it returns, the kind of its receiver (-1: none), how many parameters, the places of its words (code, instance or static, selects, initialized) -/
abbrev zI : Type := MethodName × ByteArray × Option FieldType × Int × Nat × List Int
def z_cok (mi : Nat → zI) (NM : Nat) (own : String) (cc : ByteArray) (pc : Nat) (o : zO) : Bool := match o with
  | (25, n, k, na, kd, (i, w) :: (f, _) :: _) => decide (decode cc pc = .ok (z_ins o pc)) && decide (n = pc + 3 ∧ 0 ≤ k ∧ k < NM ∧ kd = (mi k.toNat).2.2.2.1 ∧ na = ((mi k.toNat).2.2.2.2.1 : Int) + (if kd = -1 then 0 else 1) ∧ f = (if (mi k.toNat).1.name = "<init>" then 1 else 0)) && z_wd w (.methodLink own i.toNat (mi k.toNat).1)
  | _ => false
def z_opok (mi : Nat → zI) (NM : Nat) (own : String) (isI : Bool) (rt : Option FieldType) (cc : ByteArray) (pc : Nat) (o : zO) : Bool :=
  if o.1 = 99 then true else if o.1 = 25 then z_cok mi NM own cc pc o else z_good own isI rt cc pc o
def z_mok (I : zI) (mL : Nat) : Bool :=
  z_wd (I.2.2.2.2.2.getD 0 0) (.code I.1 I.2.1 mL I.2.2.1) && z_wd (I.2.2.2.2.2.getD 3 0) (.initialized I.1.cls) && decide (plainName I.1.cls = true) && decide (I.1.cls ≠ "java/lang/invoke/MethodHandle" ∧ I.1.cls ≠ "java/lang/invoke/VarHandle" ∧ (parseMethodDescriptor I.1.desc).map (fun d => d.parameters.length) = some I.2.2.2.2.1 ∧ mL ≤ 20) &&
  (if I.2.2.2.1 = -1 then z_wd (I.2.2.2.2.2.getD 1 0) (.static I.1) else decide (0 ≤ I.2.2.2.1 ∧ I.2.2.2.1 < 9 ∧ (z_cl I.2.2.2.1).1 = I.1.cls) && z_wd (I.2.2.2.2.2.getD 1 0) (.instanceMethod I.1) && (if I.1.name = "<init>" then decide (I.2.2.1 = none) else z_wd (I.2.2.2.2.2.getD 2 0) (.selects I.1.cls I.1 I.1)))
def z_room (d mc ms : Nat) : Room := { frames := d + 1, cells := mc, slots := ms, locals := 40 * (d + 1) }
def z_Pc (D : va_G) (ca : Nat → ClassId) (ad : Int → Option Nat) (B : Nat) (σ : zS) (vs : List zV) : Array Value → State → Prop := va_Pc (vs.map (z_cv ad)) (fun U => U.heap.size = B + σ.1 ∧ z_U D ca ad U ∧ z_H D ca ad B σ U U.heap)
def z_Qc (D : va_G) (ca : Nat → ClassId) (ad : Int → Option Nat) (B : Nat) (σ' : zS) (rv : Option zV) : Array Value → State → Outcome → State → Prop := fun _ st o t => o = .returned (rv.map (z_cv ad)) ∧ z_H D ca ad B σ' t t.heap ∧ va_F (fun q => B ≤ q) st t ∧ ∀ v, rv = some v → z_okv v
theorem z_H_moved {D : va_G} {ca : Nat → ClassId} {ad : Int → Option Nat} {B : Nat} {σ : zS} {u U : State} {H : Heap} (hvm : u.vm.Alike U.vm) (h : z_H D ca ad B σ u H) : z_H D ca ad B σ U H := by
  obtain ⟨h1, h2, ⟨b, h3, h4, h5⟩, h6⟩ := h
  exact ⟨h1, h2, ⟨b, h3, h4, h5.moved hvm⟩, z_E_moved hvm h6⟩
theorem z_blind {D : va_G} {ca : Nat → ClassId} {ad : Int → Option Nat} {B : Nat} {σ : zS} {vs : List zV} : FrameBlind (z_Pc D ca ad B σ vs) := by
  intro a U g mk h
  obtain ⟨h0, h1, h2, h3⟩ := h
  exact ⟨h0, h1, z_U_same (s := U) (U := U.calling g mk a) rfl h2, z_H_moved (u := U) (U := U.calling g mk a) (Vm.Alike.refl U.vm) h3⟩
/-- the locals at a method's start -/
theorem z_lg {ad : Int → Option Nat} : ∀ (vs : List zV), (∀ v ∈ vs, v.1 < 3) → lg_sl (vs.map (z_cv ad)) = (z_sl vs).map (fun v => if v.1 = 9 then Slot.second else Slot.val (z_cv ad v))
  | [], _ => rfl
  | v :: vs, h => by
    have hv := h v List.mem_cons_self
    have ih := z_lg (ad := ad) vs (fun w hw => h w (List.mem_cons_of_mem _ hw))
    have e1 : lg_sl ((v :: vs).map (z_cv ad)) = (if (z_cv ad v).category = 2 then [Slot.val (z_cv ad v), .second] else [Slot.val (z_cv ad v)]) ++ lg_sl (vs.map (z_cv ad)) := rfl
    have e2 : z_sl (v :: vs) = (if v.1 = 1 then [v, (9, 0)] else [v]) ++ z_sl vs := rfl
    rw [e1, e2, List.map_append, ih]
    congr 1
    by_cases h1 : v.1 = 1
    · rw [if_pos ((z_catl hv).mpr h1), if_pos h1]
      simp [show ¬ v.1 = 9 by omega]
    · rw [if_neg (fun z => h1 ((z_catl hv).mp z)), if_neg h1]
      simp [show ¬ v.1 = 9 by omega]
theorem z_entry {ad : Int → Option Nat} {vs : List zV} {nL : Nat} (h3 : ∀ v ∈ vs, v.1 < 3) (hok : ∀ v ∈ vs, z_okv v) (hlen : (z_sl vs).length ≤ nL) :
    z_L ad nL ((lg_sl (vs.map (z_cv ad)) ++ List.replicate (nL - (lg_sl (vs.map (z_cv ad))).length) Slot.unset).toArray) (z_ent nL vs) := by
  have hl : (lg_sl (vs.map (z_cv ad))).length = (z_sl vs).length := by rw [z_lg vs h3, List.length_map]
  obtain ⟨e1, e2, -⟩ := lv_entry (vs.map (z_cv ad)) (n := nL) (by rw [hl]; exact hlen)
  refine ⟨e1, e2, by unfold z_ent; simp; omega, fun i v hi hv => ?_, fun v hv => ?_⟩
  · have hlt : i < (z_sl vs).length := by
      rcases Nat.lt_or_ge i (z_sl vs).length with h | h
      · exact h
      · unfold z_ent at hi
        rw [List.getElem?_append_right h] at hi
        have := List.eq_of_mem_replicate (List.mem_of_getElem? hi)
        rw [this] at hv
        exact absurd hv (by decide)
    unfold z_ent at hi
    rw [List.getElem?_append_left hlt] at hi
    rw [List.getElem?_toArray, List.getElem?_append_left (by rw [hl]; exact hlt), z_lg vs h3, List.getElem?_map, hi]
    simp [show ¬ v.1 = 9 by omega]
  · unfold z_ent at hv
    rcases List.mem_append.mp hv with h | h
    · obtain ⟨w, hw, h⟩ := List.mem_flatMap.mp h
      split at h
      · rcases List.mem_cons.mp h with h | h
        · rw [h]; exact hok w hw
        · rw [List.mem_singleton.mp h]; exact z_okN
      · rw [List.mem_singleton.mp h]; exact hok w hw
    · rw [List.eq_of_mem_replicate h]; exact z_okN
section ZS
variable {p : Program} {l : Launch} {e : Env} {R : Room} {s : State} {m : MethodId} {args : Array Value} {below : List Frame} {meth : Method} {c : Code} {Q : State → Prop}
variable {cc : ByteArray} {nL : Nat} {own : String} {D : va_G} {ca : Nat → ClassId} {ad : Int → Option Nat} {B n0 s0 : Nat}
variable {isI : Bool} {rt : Option FieldType} {pc n : Nat} {ll st : List zV} {σ : zS} {g g2 g3 : Int} {q : List (Int × Int)}
theorem z_sumc : ∀ (st : List zV), ((st.map (z_cv ad)).map fun v => v.category).sum ≤ z_cs st
  | [] => Nat.le_refl _
  | v :: st => by
    have ih := z_sumc st
    have hc : (z_cv ad v).category ≤ (if v.1 = 1 then 2 else 1) := by
      by_cases h1 : v.1 = 1
      · rw [if_pos h1]
        rcases lv_cat (z_cv ad v) with h | h <;> omega
      · rw [if_neg h1]
        obtain ⟨vt, x⟩ := v
        show (z_fv ad vt x).category ≤ 1
        unfold z_fv
        split
        · exact Nat.le_refl _
        · cases ad x <;> exact Nat.le_refl _
    simp only [List.map_cons, List.sum_cons, z_cs]
    omega
/-- a return -/
theorem zs_26 {t : Int} {rv : Option zV} (C : z_C p s m args c cc nL own D ca ad B n0) (hlocks : meth.locks = false) (hrt : meth.sig.returnType = rt) (hg : z_good own isI rt cc pc (26, n, t, g, g2, q) = true) (hr : z_ret t st = some rv) :
    z_G p l e R s m args below meth c (MQ below (z_Qc D ca ad B σ rv) args s (σ.1 - n0) (σ.2.1 - s0) (fun q => B ≤ q)) nL D ca ad B n0 s0 pc ll st σ := by
  obtain ⟨hd, hxx⟩ := z_good_inv hg
  intro H locs ls hH hS hL hst h1 h2
  simp only [z_ins] at hd
  simp only [z_xtr] at hxx
  have hrv : ∀ v, rv = some v → z_okv v := by
    intro v hv
    subst hv
    match st, hr with
    | [], hr =>
      simp only [z_ret] at hr
      split at hr <;> cases hr
    | [w], hr =>
      simp only [z_ret] at hr
      split at hr
      · cases hr
        exact hst _ List.mem_cons_self
      · cases hr
  have fin : ∀ t' : State, t'.heap = H → s.WarmedH t'.vm → z_Qc D ca ad B σ rv args s (.returned (rv.map (z_cv ad))) t' := fun t' ht hW => ⟨rfl, by rw [ht]; exact z_H_moved hW.alike hH, hS.F ht, hrv⟩
  match st, hr with
  | [], hr =>
    simp only [z_ret] at hr
    by_cases h4 : t = 4
    · rw [if_pos h4] at hr hxx hd
      cases hr
      simp only [decide_eq_true_eq] at hxx
      exact W.vret C.1 C.2.1 (hrt.trans hxx) fin hS.2.2 hd
    · rw [if_neg h4] at hr
      cases hr
  | [v], hr =>
    simp only [z_ret] at hr
    split at hr
    · rename_i hc
      obtain ⟨t0, t4, hv, hf⟩ := hc
      cases hr
      obtain ⟨vt, x⟩ := v
      have hc : t = 0 ∨ t = 1 ∨ t = 2 ∨ t = 3 := by omega
      rcases hc with rfl | rfl | rfl | rfl
      · cases hv
        simp only [decide_eq_true_eq, show ¬ (0 : Int) = 4 by decide, show ¬ (0 : Int) = 1 by decide, show ¬ (0 : Int) = 2 by decide, if_false, if_true] at hxx hd
        exact W.iret C.1 C.2.1 (hrt.trans hxx) fin hS.2.2 hd
      · cases hv
        simp only [decide_eq_true_eq, show ¬ (1 : Int) = 4 by decide, if_false, if_true] at hxx hd
        exact W.lret C.1 C.2.1 (hrt.trans hxx) fin hS.2.2 hd
      · cases hv
        simp only [decide_eq_true_eq, show ¬ (2 : Int) = 4 by decide, show ¬ (2 : Int) = 1 by decide, show ¬ (2 : Int) = 0 by decide, show ¬ (2 : Int) = 3 by decide, if_false, if_true] at hxx hd
        exact W.aret C.1 C.2.1 (hrt.trans hxx) (Or.inl ⟨_, rfl⟩) (by show va_rf (ad x) = _ ∨ ∃ a, va_rf (ad x) = _; cases ad x with | none => exact Or.inl rfl | some a => exact Or.inr ⟨a, rfl⟩) fin hS.2.2 hd
      · cases hv
        simp only [decide_eq_true_eq, show ¬ (3 : Int) = 4 by decide, show ¬ (3 : Int) = 1 by decide, show ¬ (3 : Int) = 0 by decide, show ¬ (3 : Int) = 2 by decide, if_false, if_true] at hxx hd
        have hb : x = 0 ∨ x = 1 := by simpa [z_fitv] using hf
        exact W.zret C.1 C.2.1 (hrt.trans hxx) (by rcases hb with rfl | rfl <;> decide) fin hS.2.2 hd
    · cases hr
/-- what goes on behind a call -/
theorem z_back {mc ms : Nat} {σ1 : zS} {rv : Option zV} {rest : List zV} {H : Heap} {locs : List Loc} {ls : Array Slot} {st0 : List Value} {a : Array Value} (hs : s.heap.size = B + n0)
    (hr : va_Run p l e R s m args below meth c H locs (σ.1 - n0) (σ.2.1 - s0) mc ms (F0 m pc ls st0) (rest.map (z_cv ad)) (z_Qc D ca ad B σ1 rv a) (fun q => B ≤ q)) (hS : va_S (fun q => B ≤ q) s.heap H locs) (hL : z_L ad nL ls ll) (hst : ∀ v ∈ rest, z_okv v) (h1 : n0 ≤ σ.1) (h2 : s0 ≤ σ.2.1)
    (hm : σ.1 ≤ σ1.1 ∧ σ.2.1 ≤ σ1.2.1) (hmc : mc = σ1.1 - σ.1) (hms : ms = σ1.2.1 - σ.2.1) (k : z_G p l e R s m args below meth c Q nL D ca ad B n0 s0 (pc + 3) ll (rv.toList ++ rest) σ1) : W p l e R s m args below meth c H locs (σ.1 - n0) (σ.2.1 - s0) Q (F0 m pc ls st0) := by
  intro T hT X
  obtain ⟨v, st₀, t, T', L, h0, X', hLo, e1, e2, ⟨hv, hH1, ⟨hz, hk⟩, hrv⟩, go⟩ := hr T hT X
  have hv : v = rv.map (z_cv ad) := Outcome.returned.inj hv
  subst hv
  rw [h0] at hz hk
  have hS1 : va_S (fun q => B ≤ q) s.heap T'.heap (locs ++ L) := ⟨Nat.le_trans hS.1 (by rw [e1]; exact hz), fun q q1 q2 => by rw [e1, hk q (Nat.lt_of_lt_of_le q1 hS.1) q2]; exact hS.2.1 q q1 q2, fun q hq => by
    rcases List.mem_append.mp hq with h | h
    · exact hS.2.2 q h
    · exact hLo q h⟩
  have hvm : t.vm.Alike s.vm := by rw [← e2]; exact X'.warmed.alike.symm
  have hst' : ∀ v ∈ rv.toList ++ rest, z_okv v := fun w hw => by
    rcases List.mem_append.mp hw with h | h
    · exact hrv w (Option.mem_toList.mp h)
    · exact hst w h
  have k2 := k T'.heap (locs ++ L) ls (by rw [e1]; exact z_H_moved hvm hH1) hS1 hL hst' (by omega) (by omega)
  rw [show σ1.1 - n0 = σ.1 - n0 + mc by omega, show σ1.2.1 - s0 = σ.2.1 - s0 + ms by omega] at k2
  obtain ⟨t2, a1, b1⟩ := k2 T' rfl X'
  refine ⟨t2, go t2 ?_, b1⟩
  have ef : (rv.toList ++ rest).map (z_cv ad) = (rv.map (z_cv ad)).toList ++ rest.map (z_cv ad) := by
    cases rv <;> rfl
  rw [ef] at a1
  exact a1
end ZS
