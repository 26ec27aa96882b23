/-! QUESTIONS: names -/
section QG
variable {L d n : Nat} {M : zM} {Q : Option zV → zM → Prop} {s : zA} {t : List Int}
noncomputable def fnT (t : List Int) (j : Nat) : Bool := decide ((nd (NT (toks t)) (lf (NT (toks t)) (j : Int))).1 = 12 ∧ ∀ x : Nat, x < j → ¬ usT t (j : Int) x = true)
noncomputable def fnN (t : List Int) (j : Nat) : Bool := decide ((nd (NT (toks t)) (j : Int)).1 = 12 ∧ ∀ x : Nat, x < j → ¬ usN t (nd (NT (toks t)) (j : Int)).2.2.2.2.2.1 x = true)
theorem FN_FT : (flt (fnN t) (NT (toks t)).length).map (fun (n : Nat) => (nd (NT (toks t)) (n : Int)).2.2.2.2.2.1.toNat) = flt (fnT t) (toks t).length := by
  refine asc_ext _ _ ?_ flt_lt (fun x => ?_)
  · rw [List.pairwise_map]
    refine List.Pairwise.imp_of_mem ?_ (flt_lt (p := fnN t) (n := (NT (toks t)).length))
    intro a b ha hb hab
    have n1 := nam (of_decide_eq_true (flt_mem.mp ha).2).1
    have n2 := nam (of_decide_eq_true (flt_mem.mp hb).2).1
    have := NT_next (tkOK_toks t) a b hab n2.1.2 (by rw [← nd_nat n1.1.2, n1.2.2.1]; omega)
    rw [← nd_nat n1.1.2, ← nd_nat n2.1.2] at this
    omega
  · constructor
    · intro hx
      obtain ⟨n, hn, rfl⟩ := List.mem_map.mp hx
      have hu := of_decide_eq_true (flt_mem.mp hn).2
      have n1 := nam hu.1
      have ex : (((nd (NT (toks t)) (n : Int)).2.2.2.2.2.1.toNat : Nat) : Int) = (nd (NT (toks t)) (n : Int)).2.2.2.2.2.1 := by omega
      refine flt_mem.mpr ⟨by omega, decide_eq_true ?_⟩
      rw [ex, lf_of ⟨by omega, by omega⟩ n1.2.1 n1.2.2.2.1]
      refine ⟨hu.1, fun y hy z => ?_⟩
      have z := of_decide_eq_true z
      obtain ⟨a1, a2, a3, a4, a5⟩ := lf_sp (t := t) (j := (y : Int)) ⟨by omega, by omega⟩
      have e : (((lf (NT (toks t)) (y : Int)).toNat : Nat) : Int) = lf (NT (toks t)) (y : Int) := by omega
      have hlt : (lf (NT (toks t)) (y : Int)).toNat < n := by
        by_cases c : (lf (NT (toks t)) (y : Int)).toNat < n
        · exact c
        · have := NT_mono (tkOK_toks t) n (lf (NT (toks t)) (y : Int)).toNat (by omega) (by omega)
          rw [← nd_nat n1.1.2, ← nd_nat (show (lf (NT (toks t)) (y : Int)).toNat < (NT (toks t)).length by omega), e, a5] at this
          omega
      exact hu.2 _ hlt (decide_eq_true (by rw [e, a5]; exact z))
    · intro hx
      obtain ⟨h1, h2⟩ := flt_mem.mp hx
      have h2 := of_decide_eq_true h2
      obtain ⟨a1, a2, a3, a4, a5⟩ := lf_sp (t := t) (j := (x : Int)) ⟨by omega, by omega⟩
      have e : (((lf (NT (toks t)) (x : Int)).toNat : Nat) : Int) = lf (NT (toks t)) (x : Int) := by omega
      refine List.mem_map.mpr ⟨(lf (NT (toks t)) (x : Int)).toNat, flt_mem.mpr ⟨by omega, decide_eq_true ?_⟩, ?_⟩
      · rw [e, a5]
        refine ⟨h2.1, fun o ho z => ?_⟩
        have z := of_decide_eq_true z
        have n1 := nam z.1
        have nx := NT_next (tkOK_toks t) o (lf (NT (toks t)) (x : Int)).toNat ho (by omega) (by rw [← nd_nat n1.1.2, n1.2.2.1]; omega)
        rw [← nd_nat n1.1.2, ← nd_nat (show (lf (NT (toks t)) (x : Int)).toNat < (NT (toks t)).length by omega), e, a5, n1.2.2.2.1] at nx
        have ex : (((nd (NT (toks t)) (o : Int)).2.2.2.2.2.1.toNat : Nat) : Int) = (nd (NT (toks t)) (o : Int)).2.2.2.2.2.1 := by omega
        refine h2.2 (nd (NT (toks t)) (o : Int)).2.2.2.2.2.1.toNat (by omega) (decide_eq_true ?_)
        rw [ex, lf_of ⟨by omega, by omega⟩ n1.2.1 n1.2.2.2.1]
        exact z
      · show (nd (NT (toks t)) (((lf (NT (toks t)) (x : Int)).toNat : Nat) : Int)).2.2.2.2.2.1.toNat = x
        rw [e, a5]; omega
theorem hdI_ap2 {l R : List Nat} (h : l ≠ []) : hdI (l ++ R) = hdI l := by
  cases l with
  | nil => exact absurd rfl h
  | cons x l => rfl
theorem fn_hd {j : Nat} (hj : j < (toks t).length) (h : (nd (NT (toks t)) (lf (NT (toks t)) (j : Int))).1 = 12) : hdI (TI t (j : Int) (toks t).length) = (j : Int) ↔ ∀ x : Nat, x < j → ¬ usT t (j : Int) x = true := by
  have hu : usT t (j : Int) j = true := decide_eq_true ⟨h, rfl⟩
  constructor
  · intro e x hx z
    obtain ⟨R, er⟩ := flt_pre (usT t (j : Int)) j ((toks t).length - j)
    rw [show j + ((toks t).length - j) = (toks t).length by omega] at er
    have hne : flt (usT t (j : Int)) j ≠ [] := fun w => by have := flt_mem.mpr ⟨hx, z⟩; rw [w] at this; exact List.not_mem_nil this
    have r := (hl_rng (usT t (j : Int)) j).1
    unfold TI at e
    rw [er, hdI_ap2 hne] at e
    omega
  · intro e
    exact hdI_first hj (List.eq_nil_iff_forall_not_mem.mpr (fun x hx => e x (flt_mem.mp hx).1 (flt_mem.mp hx).2)) hu
noncomputable def nmK (t : List Int) (m : Int) : Int := if m = -1 then ((flt (fnT t) (toks t).length).length : Int) else if m < ((flt (fnT t) (toks t).length).length : Int) then lf (NT (toks t)) ((flt (fnT t) (toks t).length).getD m.toNat 0 : Int) else -2
noncomputable def namesQ (s : zA) (m : Int) : Int := if -1 ≤ m then nmK s.1.1 m else -1
theorem nm_ref {m : Int} (hm : -1 ≤ m) : nmK t m = if m = -1 then ((flt (fnN t) (NT (toks t)).length).length : Int) else if m < ((flt (fnN t) (NT (toks t)).length).length : Int) then ((flt (fnN t) (NT (toks t)).length).getD m.toNat 0 : Int) else -2 := by
  unfold nmK
  have el : (flt (fnT t) (toks t).length).length = (flt (fnN t) (NT (toks t)).length).length := by rw [← FN_FT, List.length_map]
  rw [el]
  by_cases c : m = -1
  · rw [if_pos c, if_pos c]
  · rw [if_neg c, if_neg c]
    by_cases c1 : m < ((flt (fnN t) (NT (toks t)).length).length : Int)
    · rw [if_pos c1, if_pos c1]
      have hlt : m.toNat < (flt (fnN t) (NT (toks t)).length).length := by omega
      have e1 : (flt (fnN t) (NT (toks t)).length).getD m.toNat 0 = (flt (fnN t) (NT (toks t)).length)[m.toNat] := by rw [List.getD_eq_getElem?_getD, List.getElem?_eq_getElem hlt]; rfl
      have hmem : (flt (fnN t) (NT (toks t)).length).getD m.toNat 0 ∈ flt (fnN t) (NT (toks t)).length := by rw [e1]; exact List.getElem_mem _
      have n1 := nam (of_decide_eq_true (flt_mem.mp hmem).2).1
      have e2 : (flt (fnT t) (toks t).length).getD m.toNat 0 = (nd (NT (toks t)) (((flt (fnN t) (NT (toks t)).length).getD m.toNat 0 : Nat) : Int)).2.2.2.2.2.1.toNat := by
        rw [← FN_FT, List.getD_eq_getElem?_getD, List.getElem?_map, List.getElem?_eq_getElem hlt, e1]
        rfl
      rw [e2, show (((nd (NT (toks t)) (((flt (fnN t) (NT (toks t)).length).getD m.toNat 0 : Nat) : Int)).2.2.2.2.2.1.toNat : Nat) : Int) = (nd (NT (toks t)) (((flt (fnN t) (NT (toks t)).length).getD m.toNat 0 : Nat) : Int)).2.2.2.2.2.1 by omega]
      exact lf_of ⟨by omega, by omega⟩ n1.2.1 n1.2.2.2.1
    · rw [if_neg c1, if_neg c1]
theorem S_names_loop {m : Int} (hm : -1 ≤ m) (hV : BV M 2 t 0) (hR : RT (toks t) M) (hN : TN (toks t) M) (hl : t.length ≤ 300) (k : Q (some (0, nmK t m)) M) : ∀ (n j : Nat), n = (toks t).length - j → j ≤ (toks t).length → (m = -1 ∨ ((flt (fnT t) j).length : Int) ≤ m) → v_wp L (d + 5) 167 11 [(2, 1), (0, m), (0, ((flt (fnT t) j).length : Int)), (0, (j : Int))] [] M Q := by
  intro n
  have hlT : (toks t).length ≤ 300 := hR.2.1
  unfold nmK at k
  induction n with
  | zero =>
    intro j hn hj he
    have ej : j = (toks t).length := by omega
    subst ej
    refine v_load rfl rfl ⟨rfl, Nat.le_of_ble_eq_true rfl⟩ ?_
    refine v_load rfl rfl ⟨rfl, Nat.le_of_ble_eq_true rfl⟩ ?_
    refine v_getp rfl rfl rfl ?_
    refine v_callr rfl ⟨Nat.le_of_ble_eq_true rfl, Nat.le_of_ble_eq_true rfl, rfl, Nat.le_of_ble_eq_true rfl, rfl⟩ ?_
    refine S_tkSize hR ?_
    refine v_ige rfl (fun _ => ?_) (fun h => absurd h (by omega))
    refine v_load rfl rfl ⟨rfl, Nat.le_of_ble_eq_true rfl⟩ ?_
    refine v_push rfl ?_
    refine v_ine rfl (fun c1 => ?_) (fun c1 => ?_)
    · refine v_push rfl ?_
      refine v_ret rfl rfl ?_
      rw [if_neg c1, if_neg (by omega)] at k
      exact k
    · refine v_load rfl rfl ⟨rfl, Nat.le_of_ble_eq_true rfl⟩ ?_
      refine v_goto rfl ?_
      refine v_ret rfl rfl ?_
      rw [if_pos (by omega)] at k
      exact k
  | succ n ih =>
    intro j hn hj he
    have hjl : j < (toks t).length := by omega
    by_cases c0 : (nd (NT (toks t)) (lf (NT (toks t)) (j : Int))).1 = 12
    · have hu : usT t (j : Int) j = true := decide_eq_true ⟨c0, rfl⟩
      have fh := fn_hd hjl c0
      by_cases c : fnT t j = true
      · have c' := of_decide_eq_true c
        by_cases c2 : ((flt (fnT t) j).length : Int) = m
        · have fa := flt_at (p := fnT t) (n := (toks t).length) (j := j) (by omega) c
          rw [if_neg (by omega), if_pos (by omega), show m.toNat = (flt (fnT t) j).length by omega, fa.2] at k
          refine v_load rfl rfl ⟨rfl, Nat.le_of_ble_eq_true rfl⟩ ?_
          refine v_load rfl rfl ⟨rfl, Nat.le_of_ble_eq_true rfl⟩ ?_
          refine v_getp rfl rfl rfl ?_
          refine v_callr rfl ⟨Nat.le_of_ble_eq_true rfl, Nat.le_of_ble_eq_true rfl, rfl, Nat.le_of_ble_eq_true rfl, rfl⟩ ?_
          refine S_tkSize hR ?_
          refine v_ige rfl (fun h => absurd h (by omega)) (fun _ => ?_)
          refine v_load rfl rfl ⟨rfl, Nat.le_of_ble_eq_true rfl⟩ ?_
          refine v_load rfl rfl ⟨rfl, Nat.le_of_ble_eq_true rfl⟩ ?_
          refine v_load rfl rfl ⟨rfl, Nat.le_of_ble_eq_true rfl⟩ ?_
          refine v_callr rfl ⟨Nat.le_of_ble_eq_true rfl, Nat.le_of_ble_eq_true rfl, rfl, Nat.le_of_ble_eq_true rfl, rfl⟩ ?_
          refine S_isUse hjl hV hR hN hl ?_
          rw [b2i_t hu]
          refine v_ifeq rfl (fun h => absurd h (by decide)) (fun _ => ?_)
          refine v_load rfl rfl ⟨rfl, Nat.le_of_ble_eq_true rfl⟩ ?_
          refine v_load rfl rfl ⟨rfl, Nat.le_of_ble_eq_true rfl⟩ ?_
          refine v_callr rfl ⟨Nat.le_of_ble_eq_true rfl, Nat.le_of_ble_eq_true rfl, rfl, Nat.le_of_ble_eq_true rfl, rfl⟩ ?_
          refine S_firstUse hV hR hN hl ?_
          refine v_load rfl rfl ⟨rfl, Nat.le_of_ble_eq_true rfl⟩ ?_
          refine v_ine rfl (fun h => absurd h (fun z => z (fh.mpr c'.2))) (fun _ => ?_)
          refine v_load rfl rfl ⟨rfl, Nat.le_of_ble_eq_true rfl⟩ ?_
          refine v_load rfl rfl ⟨rfl, Nat.le_of_ble_eq_true rfl⟩ ?_
          refine v_ine rfl (fun h => absurd h (by omega)) (fun _ => ?_)
          refine v_load rfl rfl ⟨rfl, Nat.le_of_ble_eq_true rfl⟩ ?_
          refine v_getp rfl rfl rfl ?_
          refine v_load rfl rfl ⟨rfl, Nat.le_of_ble_eq_true rfl⟩ ?_
          refine v_callr rfl ⟨Nat.le_of_ble_eq_true rfl, Nat.le_of_ble_eq_true rfl, rfl, Nat.le_of_ble_eq_true rfl, rfl⟩ ?_
          refine S_leafOf hR hN hl ?_
          rw [if_pos ⟨by omega, by omega⟩]
          refine v_ret rfl rfl ?_
          exact k
        · have e : (flt (fnT t) (j + 1)).length = (flt (fnT t) j).length + 1 := by rw [flt_y c]; simp
          have ihh := ih (j + 1) (by omega) (by omega) (by omega)
          rw [e, show (((flt (fnT t) j).length + 1 : Nat) : Int) = ((flt (fnT t) j).length : Int) + 1 by omega, show ((j + 1 : Nat) : Int) = (j : Int) + 1 by omega] at ihh
          have hfl := flt_len (fnT t) j
          refine v_load rfl rfl ⟨rfl, Nat.le_of_ble_eq_true rfl⟩ ?_
          refine v_load rfl rfl ⟨rfl, Nat.le_of_ble_eq_true rfl⟩ ?_
          refine v_getp rfl rfl rfl ?_
          refine v_callr rfl ⟨Nat.le_of_ble_eq_true rfl, Nat.le_of_ble_eq_true rfl, rfl, Nat.le_of_ble_eq_true rfl, rfl⟩ ?_
          refine S_tkSize hR ?_
          refine v_ige rfl (fun h => absurd h (by omega)) (fun _ => ?_)
          refine v_load rfl rfl ⟨rfl, Nat.le_of_ble_eq_true rfl⟩ ?_
          refine v_load rfl rfl ⟨rfl, Nat.le_of_ble_eq_true rfl⟩ ?_
          refine v_load rfl rfl ⟨rfl, Nat.le_of_ble_eq_true rfl⟩ ?_
          refine v_callr rfl ⟨Nat.le_of_ble_eq_true rfl, Nat.le_of_ble_eq_true rfl, rfl, Nat.le_of_ble_eq_true rfl, rfl⟩ ?_
          refine S_isUse hjl hV hR hN hl ?_
          rw [b2i_t hu]
          refine v_ifeq rfl (fun h => absurd h (by decide)) (fun _ => ?_)
          refine v_load rfl rfl ⟨rfl, Nat.le_of_ble_eq_true rfl⟩ ?_
          refine v_load rfl rfl ⟨rfl, Nat.le_of_ble_eq_true rfl⟩ ?_
          refine v_callr rfl ⟨Nat.le_of_ble_eq_true rfl, Nat.le_of_ble_eq_true rfl, rfl, Nat.le_of_ble_eq_true rfl, rfl⟩ ?_
          refine S_firstUse hV hR hN hl ?_
          refine v_load rfl rfl ⟨rfl, Nat.le_of_ble_eq_true rfl⟩ ?_
          refine v_ine rfl (fun h => absurd h (fun z => z (fh.mpr c'.2))) (fun _ => ?_)
          refine v_load rfl rfl ⟨rfl, Nat.le_of_ble_eq_true rfl⟩ ?_
          refine v_load rfl rfl ⟨rfl, Nat.le_of_ble_eq_true rfl⟩ ?_
          refine v_ine rfl (fun _ => ?_) (fun h => absurd h (by omega))
          refine v_iinc rfl rfl rfl (by omega) rfl ?_
          refine v_iinc rfl rfl rfl (by omega) rfl ?_
          refine v_goto rfl ?_
          exact ihh
      · have ihh := ih (j + 1) (by omega) (by omega) (by rw [flt_n c]; exact he)
        rw [flt_n c, show ((j + 1 : Nat) : Int) = (j : Int) + 1 by omega] at ihh
        refine v_load rfl rfl ⟨rfl, Nat.le_of_ble_eq_true rfl⟩ ?_
        refine v_load rfl rfl ⟨rfl, Nat.le_of_ble_eq_true rfl⟩ ?_
        refine v_getp rfl rfl rfl ?_
        refine v_callr rfl ⟨Nat.le_of_ble_eq_true rfl, Nat.le_of_ble_eq_true rfl, rfl, Nat.le_of_ble_eq_true rfl, rfl⟩ ?_
        refine S_tkSize hR ?_
        refine v_ige rfl (fun h => absurd h (by omega)) (fun _ => ?_)
        refine v_load rfl rfl ⟨rfl, Nat.le_of_ble_eq_true rfl⟩ ?_
        refine v_load rfl rfl ⟨rfl, Nat.le_of_ble_eq_true rfl⟩ ?_
        refine v_load rfl rfl ⟨rfl, Nat.le_of_ble_eq_true rfl⟩ ?_
        refine v_callr rfl ⟨Nat.le_of_ble_eq_true rfl, Nat.le_of_ble_eq_true rfl, rfl, Nat.le_of_ble_eq_true rfl, rfl⟩ ?_
        refine S_isUse hjl hV hR hN hl ?_
        rw [b2i_t hu]
        refine v_ifeq rfl (fun h => absurd h (by decide)) (fun _ => ?_)
        refine v_load rfl rfl ⟨rfl, Nat.le_of_ble_eq_true rfl⟩ ?_
        refine v_load rfl rfl ⟨rfl, Nat.le_of_ble_eq_true rfl⟩ ?_
        refine v_callr rfl ⟨Nat.le_of_ble_eq_true rfl, Nat.le_of_ble_eq_true rfl, rfl, Nat.le_of_ble_eq_true rfl, rfl⟩ ?_
        refine S_firstUse hV hR hN hl ?_
        refine v_load rfl rfl ⟨rfl, Nat.le_of_ble_eq_true rfl⟩ ?_
        refine v_ine rfl (fun _ => ?_) (fun h => absurd h (fun z => c (decide_eq_true ⟨c0, fh.mp z⟩)))
        refine v_iinc rfl rfl rfl (by omega) rfl ?_
        refine v_goto rfl ?_
        exact ihh
    · have hu : ¬ usT t (j : Int) j = true := fun z => c0 (of_decide_eq_true z).1
      have c : ¬ fnT t j = true := fun z => c0 (of_decide_eq_true z).1
      have ihh := ih (j + 1) (by omega) (by omega) (by rw [flt_n c]; exact he)
      rw [flt_n c, show ((j + 1 : Nat) : Int) = (j : Int) + 1 by omega] at ihh
      refine v_load rfl rfl ⟨rfl, Nat.le_of_ble_eq_true rfl⟩ ?_
      refine v_load rfl rfl ⟨rfl, Nat.le_of_ble_eq_true rfl⟩ ?_
      refine v_getp rfl rfl rfl ?_
      refine v_callr rfl ⟨Nat.le_of_ble_eq_true rfl, Nat.le_of_ble_eq_true rfl, rfl, Nat.le_of_ble_eq_true rfl, rfl⟩ ?_
      refine S_tkSize hR ?_
      refine v_ige rfl (fun h => absurd h (by omega)) (fun _ => ?_)
      refine v_load rfl rfl ⟨rfl, Nat.le_of_ble_eq_true rfl⟩ ?_
      refine v_load rfl rfl ⟨rfl, Nat.le_of_ble_eq_true rfl⟩ ?_
      refine v_load rfl rfl ⟨rfl, Nat.le_of_ble_eq_true rfl⟩ ?_
      refine v_callr rfl ⟨Nat.le_of_ble_eq_true rfl, Nat.le_of_ble_eq_true rfl, rfl, Nat.le_of_ble_eq_true rfl, rfl⟩ ?_
      refine S_isUse hjl hV hR hN hl ?_
      rw [b2i_f hu]
      refine v_ifeq rfl (fun _ => ?_) (fun h => absurd h (by decide))
      refine v_iinc rfl rfl rfl (by omega) rfl ?_
      refine v_goto rfl ?_
      exact ihh
theorem S_names {m : Int} (hC : CS s M) (hB : BS s n) (k : Q (some (0, namesQ s m)) M) : v_call L (d + 10) 167 [(2, 1), (0, m)] M Q := by
  obtain ⟨h1, -, -, -, h5, h6, -⟩ := id hC
  unfold namesQ at k
  refine v_in ?_
  by_cases c : -1 ≤ m
  · rw [if_pos c] at k
    refine v_load rfl rfl ⟨rfl, Nat.le_of_ble_eq_true rfl⟩ ?_
    refine v_push rfl ?_
    refine v_ige rfl (fun _ => ?_) (fun h => absurd h (by omega))
    refine v_push rfl ?_
    refine v_store rfl ⟨rfl, Nat.le_of_ble_eq_true rfl, Nat.le_of_ble_eq_true rfl, rfl⟩ rfl ?_
    refine v_push rfl ?_
    refine v_store rfl ⟨rfl, Nat.le_of_ble_eq_true rfl, Nat.le_of_ble_eq_true rfl, rfl⟩ rfl ?_
    exact S_names_loop (d := d + 5) c h1 h5 h6 hB.1 k _ 0 rfl (Nat.zero_le _) (by show m = -1 ∨ ((0 : Nat) : Int) ≤ m; omega)
  · rw [if_neg c] at k
    refine v_load rfl rfl ⟨rfl, Nat.le_of_ble_eq_true rfl⟩ ?_
    refine v_push rfl ?_
    refine v_ige rfl (fun h => absurd h (by omega)) (fun _ => ?_)
    refine v_push rfl ?_
    refine v_ret rfl rfl ?_
    exact k
theorem R_fn_loop {j : Nat} (h : (nd (NT (toks t)) (j : Int)).1 = 12) (hS : RSt t M) (k : Q (some (0, b2i (fnN t j))) M) : ∀ (n x : Nat), x + n = j → (∀ y : Nat, y < x → ¬ usN t (nd (NT (toks t)) (j : Int)).2.2.2.2.2.1 y = true) → v_wp L (d + 2) 299 15 [(2, 77), (0, (j : Int)), (0, (x : Int))] [] M Q := by
  intro n
  have hl := NT_1216 hS
  have n1 := nam h
  induction n with
  | zero =>
    intro x hx ha
    have ex : x = j := by omega
    subst ex
    rw [b2i_t (show fnN t x = true from decide_eq_true ⟨h, ha⟩)] at k
    refine v_load rfl rfl ⟨rfl, Nat.le_of_ble_eq_true rfl⟩ ?_
    refine v_load rfl rfl ⟨rfl, Nat.le_of_ble_eq_true rfl⟩ ?_
    refine v_ige rfl (fun _ => ?_) (fun h => absurd h (by omega))
    refine v_push rfl ?_
    first | refine v_ret rfl rfl ?_ | refine v_retz rfl (b2i_01 _) ?_ | refine v_retz rfl (by omega) ?_
    exact k
  | succ n ih =>
    intro x hx ha
    by_cases c : usN t (nd (NT (toks t)) (j : Int)).2.2.2.2.2.1 x = true
    · rw [b2i_f (show ¬ fnN t j = true from fun z => (of_decide_eq_true z).2 x (by omega) c)] at k
      refine v_load rfl rfl ⟨rfl, Nat.le_of_ble_eq_true rfl⟩ ?_
      refine v_load rfl rfl ⟨rfl, Nat.le_of_ble_eq_true rfl⟩ ?_
      refine v_ige rfl (fun h => absurd h (by omega)) (fun _ => ?_)
      refine v_load rfl rfl ⟨rfl, Nat.le_of_ble_eq_true rfl⟩ ?_
      refine v_load rfl rfl ⟨rfl, Nat.le_of_ble_eq_true rfl⟩ ?_
      refine v_load rfl rfl ⟨rfl, Nat.le_of_ble_eq_true rfl⟩ ?_
      refine v_callr rfl ⟨Nat.le_of_ble_eq_true rfl, Nat.le_of_ble_eq_true rfl, rfl, Nat.le_of_ble_eq_true rfl, rfl⟩ ?_
      refine R_areNames hS h (by omega) ?_
      rw [b2i_t c]
      refine v_ifeq rfl (fun h => absurd h (by decide)) (fun _ => ?_)
      refine v_push rfl ?_
      first | refine v_ret rfl rfl ?_ | refine v_retz rfl (b2i_01 _) ?_ | refine v_retz rfl (by omega) ?_
      exact k
    · have ihh := ih (x + 1) (by omega) (fun y hy => by by_cases e : y = x; subst e; exact c; exact ha y (by omega))
      rw [show ((x + 1 : Nat) : Int) = (x : Int) + 1 by omega] at ihh
      refine v_load rfl rfl ⟨rfl, Nat.le_of_ble_eq_true rfl⟩ ?_
      refine v_load rfl rfl ⟨rfl, Nat.le_of_ble_eq_true rfl⟩ ?_
      refine v_ige rfl (fun h => absurd h (by omega)) (fun _ => ?_)
      refine v_load rfl rfl ⟨rfl, Nat.le_of_ble_eq_true rfl⟩ ?_
      refine v_load rfl rfl ⟨rfl, Nat.le_of_ble_eq_true rfl⟩ ?_
      refine v_load rfl rfl ⟨rfl, Nat.le_of_ble_eq_true rfl⟩ ?_
      refine v_callr rfl ⟨Nat.le_of_ble_eq_true rfl, Nat.le_of_ble_eq_true rfl, rfl, Nat.le_of_ble_eq_true rfl, rfl⟩ ?_
      refine R_areNames hS h (by omega) ?_
      rw [b2i_f c]
      refine v_ifeq rfl (fun _ => ?_) (fun h => absurd h (by decide))
      refine v_iinc rfl rfl rfl (by omega) rfl ?_
      refine v_goto rfl ?_
      exact ihh
theorem R_isFirstName {j : Nat} (hj : j < (NT (toks t)).length) (hS : RSt t M) (k : Q (some (0, b2i (fnN t j))) M) : v_call L (d + 2) 299 [(2, 77), (0, (j : Int))] M Q := by
  have hl := NT_1216 hS
  have g1 := (TM_nd hS (i := (j : Int)) ⟨by omega, by omega⟩).1
  refine v_in ?_
  by_cases c : (nd (NT (toks t)) (j : Int)).1 = 12
  · refine v_load rfl rfl ⟨rfl, Nat.le_of_ble_eq_true rfl⟩ ?_
    refine v_getp rfl rfl rfl ?_
    refine v_load rfl rfl ⟨rfl, Nat.le_of_ble_eq_true rfl⟩ ?_
    refine v_ald9 rfl rfl ⟨by omega, by show _ < (1600 : Int); omega⟩ ?_
    rw [g1]
    refine v_push rfl ?_
    refine v_ieq rfl (fun _ => ?_) (fun h => absurd h (by omega))
    refine v_push rfl ?_
    refine v_store rfl ⟨rfl, Nat.le_of_ble_eq_true rfl, Nat.le_of_ble_eq_true rfl, rfl⟩ rfl ?_
    exact R_fn_loop c hS k j 0 (by omega) (fun y hy => absurd hy (Nat.not_lt_zero _))
  · rw [b2i_f (show ¬ fnN t j = true from fun z => c (of_decide_eq_true z).1)] at k
    refine v_load rfl rfl ⟨rfl, Nat.le_of_ble_eq_true rfl⟩ ?_
    refine v_getp rfl rfl rfl ?_
    refine v_load rfl rfl ⟨rfl, Nat.le_of_ble_eq_true rfl⟩ ?_
    refine v_ald9 rfl rfl ⟨by omega, by show _ < (1600 : Int); omega⟩ ?_
    rw [g1]
    refine v_push rfl ?_
    refine v_ieq rfl (fun h => absurd h (by omega)) (fun _ => ?_)
    refine v_push rfl ?_
    first | refine v_ret rfl rfl ?_ | refine v_retz rfl (b2i_01 _) ?_ | refine v_retz rfl (by omega) ?_
    exact k
theorem R_names_loop {m : Int} (hm : -1 ≤ m) (hS : RSt t M) (k : Q (some (0, nmK t m)) M) : ∀ (n j : Nat), n = (NT (toks t)).length - j → j ≤ (NT (toks t)).length → (m = -1 ∨ ((flt (fnN t) j).length : Int) ≤ m) → v_wp L (d + 5) 300 11 [(2, 77), (0, m), (0, ((flt (fnN t) j).length : Int)), (0, (j : Int))] [] M Q := by
  intro n
  have hl := NT_1216 hS
  have h44 := (TM_len hS.2.2.1).1
  rw [nm_ref hm] at k
  induction n with
  | zero =>
    intro j hn hj he
    have ej : j = (NT (toks t)).length := by omega
    subst ej
    refine v_load rfl rfl ⟨rfl, Nat.le_of_ble_eq_true rfl⟩ ?_
    refine v_load rfl rfl ⟨rfl, Nat.le_of_ble_eq_true rfl⟩ ?_
    refine v_getx rfl rfl (h44) ?_
    refine v_ige rfl (fun _ => ?_) (fun h => absurd h (by omega))
    refine v_load rfl rfl ⟨rfl, Nat.le_of_ble_eq_true rfl⟩ ?_
    refine v_push rfl ?_
    refine v_ine rfl (fun c1 => ?_) (fun c1 => ?_)
    · refine v_push rfl ?_
      refine v_ret rfl rfl ?_
      rw [if_neg c1, if_neg (by omega)] at k
      exact k
    · refine v_load rfl rfl ⟨rfl, Nat.le_of_ble_eq_true rfl⟩ ?_
      refine v_goto rfl ?_
      refine v_ret rfl rfl ?_
      rw [if_pos (by omega)] at k
      exact k
  | succ n ih =>
    intro j hn hj he
    by_cases c : fnN t j = true
    · by_cases c2 : ((flt (fnN t) j).length : Int) = m
      · have fa := flt_at (p := fnN t) (n := (NT (toks t)).length) (j := j) (by omega) c
        rw [if_neg (by omega), if_pos (by omega), show m.toNat = (flt (fnN t) j).length by omega, fa.2] at k
        refine v_load rfl rfl ⟨rfl, Nat.le_of_ble_eq_true rfl⟩ ?_
        refine v_load rfl rfl ⟨rfl, Nat.le_of_ble_eq_true rfl⟩ ?_
        refine v_getx rfl rfl (h44) ?_
        refine v_ige rfl (fun h => absurd h (by omega)) (fun _ => ?_)
        refine v_load rfl rfl ⟨rfl, Nat.le_of_ble_eq_true rfl⟩ ?_
        refine v_load rfl rfl ⟨rfl, Nat.le_of_ble_eq_true rfl⟩ ?_
        refine v_callr rfl ⟨Nat.le_of_ble_eq_true rfl, Nat.le_of_ble_eq_true rfl, rfl, Nat.le_of_ble_eq_true rfl, rfl⟩ ?_
        refine R_isFirstName (by omega) hS ?_
        rw [b2i_t c]
        refine v_ifne rfl (fun _ => ?_) (fun h => absurd h (by decide))
        refine v_load rfl rfl ⟨rfl, Nat.le_of_ble_eq_true rfl⟩ ?_
        refine v_load rfl rfl ⟨rfl, Nat.le_of_ble_eq_true rfl⟩ ?_
        refine v_ine rfl (fun h => absurd h (by omega)) (fun _ => ?_)
        refine v_load rfl rfl ⟨rfl, Nat.le_of_ble_eq_true rfl⟩ ?_
        refine v_ret rfl rfl ?_
        exact k
      · have e : (flt (fnN t) (j + 1)).length = (flt (fnN t) j).length + 1 := by rw [flt_y c]; simp
        have ihh := ih (j + 1) (by omega) (by omega) (by omega)
        rw [e, show (((flt (fnN t) j).length + 1 : Nat) : Int) = ((flt (fnN t) j).length : Int) + 1 by omega, show ((j + 1 : Nat) : Int) = (j : Int) + 1 by omega] at ihh
        have hfl := flt_len (fnN t) j
        refine v_load rfl rfl ⟨rfl, Nat.le_of_ble_eq_true rfl⟩ ?_
        refine v_load rfl rfl ⟨rfl, Nat.le_of_ble_eq_true rfl⟩ ?_
        refine v_getx rfl rfl (h44) ?_
        refine v_ige rfl (fun h => absurd h (by omega)) (fun _ => ?_)
        refine v_load rfl rfl ⟨rfl, Nat.le_of_ble_eq_true rfl⟩ ?_
        refine v_load rfl rfl ⟨rfl, Nat.le_of_ble_eq_true rfl⟩ ?_
        refine v_callr rfl ⟨Nat.le_of_ble_eq_true rfl, Nat.le_of_ble_eq_true rfl, rfl, Nat.le_of_ble_eq_true rfl, rfl⟩ ?_
        refine R_isFirstName (by omega) hS ?_
        rw [b2i_t c]
        refine v_ifne rfl (fun _ => ?_) (fun h => absurd h (by decide))
        refine v_load rfl rfl ⟨rfl, Nat.le_of_ble_eq_true rfl⟩ ?_
        refine v_load rfl rfl ⟨rfl, Nat.le_of_ble_eq_true rfl⟩ ?_
        refine v_ine rfl (fun _ => ?_) (fun h => absurd h (by omega))
        refine v_load rfl rfl ⟨rfl, Nat.le_of_ble_eq_true rfl⟩ ?_
        refine v_push rfl ?_
        refine v_add rfl (by omega) ?_
        refine v_store rfl ⟨rfl, Nat.le_of_ble_eq_true rfl, Nat.le_of_ble_eq_true rfl, rfl⟩ rfl ?_
        refine v_iinc rfl rfl rfl (by omega) rfl ?_
        refine v_goto rfl ?_
        exact ihh
    · have ihh := ih (j + 1) (by omega) (by omega) (by rw [flt_n c]; exact he)
      rw [flt_n c, show ((j + 1 : Nat) : Int) = (j : Int) + 1 by omega] at ihh
      refine v_load rfl rfl ⟨rfl, Nat.le_of_ble_eq_true rfl⟩ ?_
      refine v_load rfl rfl ⟨rfl, Nat.le_of_ble_eq_true rfl⟩ ?_
      refine v_getx rfl rfl (h44) ?_
      refine v_ige rfl (fun h => absurd h (by omega)) (fun _ => ?_)
      refine v_load rfl rfl ⟨rfl, Nat.le_of_ble_eq_true rfl⟩ ?_
      refine v_load rfl rfl ⟨rfl, Nat.le_of_ble_eq_true rfl⟩ ?_
      refine v_callr rfl ⟨Nat.le_of_ble_eq_true rfl, Nat.le_of_ble_eq_true rfl, rfl, Nat.le_of_ble_eq_true rfl, rfl⟩ ?_
      refine R_isFirstName (by omega) hS ?_
      rw [b2i_f c]
      refine v_ifne rfl (fun h => absurd h (by decide)) (fun _ => ?_)
      refine v_goto rfl ?_
      refine v_iinc rfl rfl rfl (by omega) rfl ?_
      refine v_goto rfl ?_
      exact ihh
theorem R_names {m : Int} (hC : RS s M) (k : Q (some (0, namesQ s m)) M) : v_call L (d + 10) 300 [(2, 77), (0, m)] M Q := by
  unfold namesQ at k
  refine v_in ?_
  by_cases c : -1 ≤ m
  · rw [if_pos c] at k
    refine v_load rfl rfl ⟨rfl, Nat.le_of_ble_eq_true rfl⟩ ?_
    refine v_push rfl ?_
    refine v_ige rfl (fun _ => ?_) (fun h => absurd h (by omega))
    refine v_push rfl ?_
    refine v_store rfl ⟨rfl, Nat.le_of_ble_eq_true rfl, Nat.le_of_ble_eq_true rfl, rfl⟩ rfl ?_
    refine v_push rfl ?_
    refine v_store rfl ⟨rfl, Nat.le_of_ble_eq_true rfl, Nat.le_of_ble_eq_true rfl, rfl⟩ rfl ?_
    exact R_names_loop (d := d + 5) c hC.1 k _ 0 rfl (Nat.zero_le _) (by show m = -1 ∨ ((0 : Nat) : Int) ≤ m; omega)
  · rw [if_neg c] at k
    refine v_load rfl rfl ⟨rfl, Nat.le_of_ble_eq_true rfl⟩ ?_
    refine v_push rfl ?_
    refine v_ige rfl (fun h => absurd h (by omega)) (fun _ => ?_)
    refine v_push rfl ?_
    refine v_ret rfl rfl ?_
    exact k
end QG
