/-! ACTS: mend -/
/-- nodes of these sorts stand alone -/
theorem leaf1 {t : List Int} {i : Int} (hi : 0 ≤ i ∧ i < ((NT (toks t)).length : Int)) (hs : (nd (NT (toks t)) i).1 = 8 ∨ (nd (NT (toks t)) i).1 = 9 ∨ (12 ≤ (nd (NT (toks t)) i).1 ∧ (nd (NT (toks t)) i).1 ≤ 14) ∨ (nd (NT (toks t)) i).1 = 16 ∨ (nd (NT (toks t)) i).1 = 17) : 0 < i ∧ (nd (NT (toks t)) i).2.2.1 = 0 ∧ (nd (NT (toks t)) i).2.2.2.1 = 1 ∧ ((nd (NT (toks t)) i).1 = 17 → (nd (NT (toks t)) i).2.2.2.2.2.2.1 = 0 ∧ ((nd (NT (toks t)) i).2.2.2.2.2.2.2 = 0 ∨ (nd (NT (toks t)) i).2.2.2.2.2.2.2 = 41 ∨ (nd (NT (toks t)) i).2.2.2.2.2.2.2 = 59 ∨ (nd (NT (toks t)) i).2.2.2.2.2.2.2 = 125)) ∧ ((nd (NT (toks t)) i).1 ≠ 17 → (nd (NT (toks t)) i).2.2.2.2.2.2.1 = 1 ∧ lfs (toks t) (nd (NT (toks t)) i).2.2.2.2.2.1 (nd (NT (toks t)) i).1 (nd (NT (toks t)) i).2.2.2.2.2.2.2) := by
  obtain ⟨cs, hw, h2, h3, h4, h5, h6⟩ := NT_nod (tkOK_toks t) (i := i.toNat) (by omega)
  rw [nd_in hi] at hs ⊢
  rcases h6 with ⟨-, e, -⟩ | ⟨e1, e2, e3, e4⟩ | ⟨e1, e2, e3, e4, e5⟩ | ⟨-, -, e, -⟩
  · rw [e] at hs
    have hs : (0 : Int) = 8 ∨ (0 : Int) = 9 ∨ ((12 : Int) ≤ 0 ∧ (0 : Int) ≤ 14) ∨ (0 : Int) = 16 ∨ (0 : Int) = 17 := hs
    omega
  · subst e2
    refine ⟨by omega, by rw [h2]; rfl, by rw [h3]; rfl, fun z => ?_, fun _ => ⟨e4, e3⟩⟩
    unfold lfs at e3
    rw [z] at e3
    omega
  · subst e2
    exact ⟨by omega, by rw [h2]; rfl, by rw [h3]; rfl, fun _ => ⟨e4, e5⟩, fun z => absurd e3 z⟩
  · exfalso
    unfold shp at e
    generalize ((NT (toks t)).getD i.toNat n0).1 = so at *
    rcases e with ⟨e, -⟩ | ⟨e, -⟩ | ⟨e, -⟩ | ⟨e, -⟩ | ⟨e, -⟩ | ⟨e, -⟩ | ⟨e, -⟩ | ⟨e, -⟩ <;> omega
/-- what is mended -/
noncomputable def mnd (t : List Int) (i : Nat) : Bool := decide ((nd (NT (toks t)) (i : Int)).1 = 9 ∨ ((nd (NT (toks t)) (i : Int)).1 = 17 ∧ (nd (NT (toks t)) (i : Int)).2.2.2.2.2.2.2 ≠ 0))
noncomputable def mnP (t : List Int) (i : Nat) : zPc := (pF t (i : Int), pE t (i : Int), if (nd (NT (toks t)) (i : Int)).1 = 17 then [(nd (NT (toks t)) (i : Int)).2.2.2.2.2.2.2] else [])
noncomputable def mnI (t : List Int) (n : Nat) : List Nat := flt (mnd t) n
noncomputable def mnL (t : List Int) (n : Nat) : List zPc := (mnI t n).map (mnP t)
theorem mnd_in {t : List Int} {i : Nat} (h : mnd t i = true) : i < (NT (toks t)).length ∧ ((nd (NT (toks t)) (i : Int)).1 = 9 ∨ ((nd (NT (toks t)) (i : Int)).1 = 17 ∧ (nd (NT (toks t)) (i : Int)).2.2.2.2.2.2.2 ≠ 0)) := by
  have h := of_decide_eq_true h
  refine ⟨?_, h⟩
  by_cases c : i < (NT (toks t)).length
  · exact c
  · rw [nd_out (by omega), show n0.1 = -1 from rfl] at h; omega
theorem mnL_ok {t : List Int} (n : Nat) : okP (t.length : Int) 0 (mnL t n) := by
  refine okP_map _ _ ?_ (fun i hi => ⟨(pF_rng t _).1, pF_pE _, (pE_rng t _).2⟩) (by omega)
  refine List.Pairwise.imp_of_mem ?_ (flt_lt (p := mnd t) (n := n))
  intro i j hi hj hij
  have h1 := mnd_in (flt_mem.mp hi).2
  have h2 := mnd_in (flt_mem.mp hj).2
  have l := leaf1 (t := t) (i := (i : Int)) ⟨by omega, by omega⟩ (by omega)
  exact pE_pF (by omega) (by omega) ⟨by omega, by rw [l.2.2.1]; omega⟩
theorem mnL_y {t : List Int} {n : Nat} (h : mnd t n = true) : mnL t (n + 1) = mnL t n ++ [mnP t n] := by unfold mnL mnI; rw [flt_y h, List.map_append]; rfl
theorem mnL_n {t : List Int} {n : Nat} (h : ¬ mnd t n = true) : mnL t (n + 1) = mnL t n := by unfold mnL mnI; rw [flt_n h]
theorem mnI_y {t : List Int} {n : Nat} (h : mnd t n = true) : mnI t (n + 1) = mnI t n ++ [n] := flt_y h
theorem mnI_n {t : List Int} {n : Nat} (h : ¬ mnd t n = true) : mnI t (n + 1) = mnI t n := flt_n h
theorem mnL_by {t : List Int} (n : Nat) : ∀ p ∈ mnL t n, z_by p.2.2 := by
  intro p hp
  obtain ⟨i, hi, rfl⟩ := List.mem_map.mp hp
  have h1 := mnd_in (flt_mem.mp hi).2
  show z_by (if _ then _ else _)
  split
  · next c =>
    have l := (leaf1 (t := t) (i := (i : Int)) ⟨by omega, by omega⟩ (by omega)).2.2.2.1 c
    exact by_1 (by omega)
  · exact fun x hx => absurd hx List.not_mem_nil
/-- where the mended part ends -/
theorem mnL_end {t : List Int} : ∀ n : Nat, mnI t n ≠ [] → (mgF t (mnL t n)).2 = pE t (ltI (mnI t n))
  | 0, h => absurd rfl h
  | n + 1, h => by
    by_cases c : mnd t n = true
    · rw [mnL_y c, mnI_y c, ltI_snoc, mgF_snoc]
      split <;> rfl
    · rw [mnL_n c, mnI_n c] at *
      exact mnL_end n h
noncomputable def mendS (s : zA) : zA × Int := if mnI s.1.1 (NT (toks s.1.1)).length = [] then (s, -1) else if ((mgT s.1.1 (mnL s.1.1 (NT (toks s.1.1)).length)).length : Int) ≤ 300 then (edS s (mgT s.1.1 (mnL s.1.1 (NT (toks s.1.1)).length)) (pF s.1.1 (hdI (mnI s.1.1 (NT (toks s.1.1)).length))) (pE s.1.1 (ltI (mnI s.1.1 (NT (toks s.1.1)).length))), ((mnI s.1.1 (NT (toks s.1.1)).length).length : Int)) else (s, -2)
section MD
variable {L d n : Nat} {M : zM} {Q : Option zV → zM → Prop} {s : zA} {t : List Int}
theorem S_isMendable {i : Nat} (hN : RN (NT (toks t)) M) (k : Q (some (0, b2i (mnd t i))) M) : v_call L (d + 2) 89 [(2, 42), (0, (i : Int))] M Q := by
  have hk : b2i (mnd t i) = if (nd (NT (toks t)) (i : Int)).1 = 9 ∨ ((nd (NT (toks t)) (i : Int)).1 = 17 ∧ (nd (NT (toks t)) (i : Int)).2.2.2.2.2.2.2 ≠ 0) then 1 else 0 := by unfold mnd b2i; simp
  rw [hk] at k
  have e9 : b2i (decide ((nd (NT (toks t)) (i : Int)).1 = 9)) = if (nd (NT (toks t)) (i : Int)).1 = 9 then 1 else 0 := by unfold b2i; simp
  have e17 : b2i (decide ((nd (NT (toks t)) (i : Int)).1 = 17)) = if (nd (NT (toks t)) (i : Int)).1 = 17 then 1 else 0 := by unfold b2i; simp
  refine v_in ?_
  refine v_load rfl rfl ⟨rfl, Nat.le_of_ble_eq_true rfl⟩ ?_
  refine v_load rfl rfl ⟨rfl, Nat.le_of_ble_eq_true rfl⟩ ?_
  refine v_push rfl ?_
  refine v_callr rfl ⟨Nat.le_of_ble_eq_true rfl, Nat.le_of_ble_eq_true rfl, rfl, Nat.le_of_ble_eq_true rfl, rfl⟩ ?_
  refine S_ndIsOf hN (by decide) ?_
  rw [e9]
  refine v_ifne rfl (fun c1 => ?_) (fun c1 => ?_)
  · refine v_push rfl ?_
    refine v_goto rfl ?_
    refine v_retz rfl (by first | exact Or.inl rfl | exact Or.inr rfl | exact b2i_01 _ | omega) ?_
    exact qeq k (by split <;> omega)
  · refine v_load rfl rfl ⟨rfl, Nat.le_of_ble_eq_true rfl⟩ ?_
    refine v_load rfl rfl ⟨rfl, Nat.le_of_ble_eq_true rfl⟩ ?_
    refine v_push rfl ?_
    refine v_callr rfl ⟨Nat.le_of_ble_eq_true rfl, Nat.le_of_ble_eq_true rfl, rfl, Nat.le_of_ble_eq_true rfl, rfl⟩ ?_
    refine S_ndIsOf hN (by decide) ?_
    rw [e17]
    refine v_ifeq rfl (fun c2 => ?_) (fun c2 => ?_)
    · refine v_push rfl ?_
      refine v_retz rfl (by first | exact Or.inl rfl | exact Or.inr rfl | exact b2i_01 _ | omega) ?_
      exact qeq k (by split <;> omega)
    · refine v_load rfl rfl ⟨rfl, Nat.le_of_ble_eq_true rfl⟩ ?_
      refine v_load rfl rfl ⟨rfl, Nat.le_of_ble_eq_true rfl⟩ ?_
      refine v_callr rfl ⟨Nat.le_of_ble_eq_true rfl, Nat.le_of_ble_eq_true rfl, rfl, Nat.le_of_ble_eq_true rfl, rfl⟩ ?_
      refine S_ndSign hN ?_
      refine v_ifeq rfl (fun c3 => ?_) (fun c3 => ?_)
      · refine v_push rfl ?_
        refine v_retz rfl (by first | exact Or.inl rfl | exact Or.inr rfl | exact b2i_01 _ | omega) ?_
        exact qeq k (by split <;> omega)
      · refine v_push rfl ?_
        refine v_goto rfl ?_
        refine v_retz rfl (by first | exact Or.inl rfl | exact Or.inr rfl | exact b2i_01 _ | omega) ?_
        exact qeq k (by split <;> omega)
/-- the draft grows by a piece -/
theorem S_mend_loop (M0 : zM) (hC : CS s M0) (hl : s.1.1.length ≤ 300) (hby : z_by s.1.1) (k : ∀ M', DRF (mgD s.1.1 (mnL s.1.1 (NT (toks s.1.1)).length)).1 M' → z_oR 6 7 M0 M' → ∀ w, v_wp L (d + 102) 129 133 [(2, 1), (0, hdI (mnI s.1.1 (NT (toks s.1.1)).length)), (0, ltI (mnI s.1.1 (NT (toks s.1.1)).length)), (0, ((mnI s.1.1 (NT (toks s.1.1)).length).length : Int)), (0, (mgD s.1.1 (mnL s.1.1 (NT (toks s.1.1)).length)).2), w] [] M' Q) : ∀ (n j : Nat) (Mc : zM), n = (NT (toks s.1.1)).length - j → j ≤ (NT (toks s.1.1)).length → DRF (mgD s.1.1 (mnL s.1.1 j)).1 Mc → z_oR 6 7 M0 Mc → v_wp L (d + 102) 129 19 [(2, 1), (0, hdI (mnI s.1.1 j)), (0, ltI (mnI s.1.1 j)), (0, ((mnI s.1.1 j).length : Int)), (0, (mgD s.1.1 (mnL s.1.1 j)).2), (0, (j : Int))] [] Mc Q := by
  intro n
  obtain ⟨h1, -, -, -, h5, h6, -⟩ := id hC
  have hlN : (NT (toks s.1.1)).length ≤ 1216 := h6.1.2.1
  induction n with
  | zero =>
    intro j Mc hn hj hD ho
    have ej : j = (NT (toks s.1.1)).length := by omega
    subst ej
    have q6 := TN_oR h6 ho (by decide)
    refine v_load rfl rfl ⟨rfl, Nat.le_of_ble_eq_true rfl⟩ ?_
    refine v_load rfl rfl ⟨rfl, Nat.le_of_ble_eq_true rfl⟩ ?_
    refine v_getp rfl rfl rfl ?_
    refine v_callr rfl ⟨Nat.le_of_ble_eq_true rfl, Nat.le_of_ble_eq_true rfl, rfl, Nat.le_of_ble_eq_true rfl, rfl⟩ ?_
    refine S_ndSize q6.1 ?_
    refine v_ige rfl (fun _ => ?_) (fun h => absurd h (by omega))
    exact k Mc hD ho _
  | succ n ih =>
    intro j Mc hn hj hD ho
    have q6 := TN_oR h6 ho (by decide)
    have q5 := RT_oR h5 ho (by decide)
    have v0 : BV Mc 2 s.1.1 0 := BV_oR h1 ho (by decide)
    have hr := mgD_rng (mnL_ok (t := s.1.1) j)
    have r1 := pF_rng s.1.1 (j : Int)
    have hll := flt_len (mnd s.1.1) j
    by_cases c : mnd s.1.1 j = true
    · have fin : ∀ (Md : zM), DRF (mgD s.1.1 (mnL s.1.1 (j + 1))).1 Md → z_oR 6 7 Mc Md → v_wp L (d + 102) 129 98 [(2, 1), (0, hdI (mnI s.1.1 j)), (0, ltI (mnI s.1.1 j)), (0, ((mnI s.1.1 j).length : Int)), (0, (mgD s.1.1 (mnL s.1.1 j)).2), (0, (j : Int))] [] Md Q := by
        intro Md hDd hod
        have hod' := z_oR_tr ho hod
        have ihh := ih (j + 1) Md (by omega) (by omega) hDd hod'
        rw [mnI_y c, hdI_snoc, ltI_snoc, List.length_append, mnL_y c, mgD_snoc, show (stp s.1.1 (mgD s.1.1 (mnL s.1.1 j)) (mnP s.1.1 j)).2 = pE s.1.1 (j : Int) from rfl] at ihh
        have h0 : mnI s.1.1 j = [] ∨ 0 ≤ hdI (mnI s.1.1 j) := by
          by_cases e : mnI s.1.1 j = []
          · exact Or.inl e
          · exact Or.inr (hdI_nn e).1
        have hmi : hdI ([] : List Nat) = -1 := rfl
        have lll : (((mnI s.1.1 j).length + [j].length : Nat) : Int) = ((mnI s.1.1 j).length : Int) + 1 := by rw [List.length_singleton]; omega
        rw [lll, show ((j + 1 : Nat) : Int) = (j : Int) + 1 by omega] at ihh
        have hll' : (mnI s.1.1 j).length ≤ j := hll
        refine v_load rfl rfl ⟨rfl, Nat.le_of_ble_eq_true rfl⟩ ?_
        refine v_getp rfl rfl rfl ?_
        refine v_load rfl rfl ⟨rfl, Nat.le_of_ble_eq_true rfl⟩ ?_
        refine v_callr rfl ⟨Nat.le_of_ble_eq_true rfl, Nat.le_of_ble_eq_true rfl, rfl, Nat.le_of_ble_eq_true rfl, rfl⟩ ?_
        refine S_endOf (BV_oR h1 hod' (by decide)) (RT_oR h5 hod' (by decide)) (TN_oR h6 hod' (by decide)) hl ?_
        refine v_store rfl ⟨rfl, Nat.le_of_ble_eq_true rfl, Nat.le_of_ble_eq_true rfl, rfl⟩ rfl ?_
        refine v_load rfl rfl ⟨rfl, Nat.le_of_ble_eq_true rfl⟩ ?_
        refine v_push rfl ?_
        refine v_ine rfl (fun e => ?_) (fun e => ?_)
        · refine v_load rfl rfl ⟨rfl, Nat.le_of_ble_eq_true rfl⟩ ?_
          refine v_store rfl ⟨rfl, Nat.le_of_ble_eq_true rfl, Nat.le_of_ble_eq_true rfl, rfl⟩ rfl ?_
          refine v_load rfl rfl ⟨rfl, Nat.le_of_ble_eq_true rfl⟩ ?_
          refine v_store rfl ⟨rfl, Nat.le_of_ble_eq_true rfl, Nat.le_of_ble_eq_true rfl, rfl⟩ rfl ?_
          refine v_iinc rfl rfl rfl (by omega) rfl ?_
          refine v_iinc rfl rfl rfl (by omega) rfl ?_
          refine v_goto rfl ?_
          rw [if_neg (fun z => e (by rw [z]; rfl))] at ihh; exact ihh
        · refine v_load rfl rfl ⟨rfl, Nat.le_of_ble_eq_true rfl⟩ ?_
          refine v_goto rfl ?_
          refine v_store rfl ⟨rfl, Nat.le_of_ble_eq_true rfl, Nat.le_of_ble_eq_true rfl, rfl⟩ rfl ?_
          refine v_load rfl rfl ⟨rfl, Nat.le_of_ble_eq_true rfl⟩ ?_
          refine v_store rfl ⟨rfl, Nat.le_of_ble_eq_true rfl, Nat.le_of_ble_eq_true rfl, rfl⟩ rfl ?_
          refine v_iinc rfl rfl rfl (by omega) rfl ?_
          refine v_iinc rfl rfl rfl (by omega) rfl ?_
          refine v_goto rfl ?_
          rw [if_pos (by rcases h0 with z | z; exact z; omega)] at ihh; exact ihh
      have hp := mnd_in c
      by_cases c17 : (nd (NT (toks s.1.1)) (j : Int)).1 = 17
      · refine v_load rfl rfl ⟨rfl, Nat.le_of_ble_eq_true rfl⟩ ?_
        refine v_load rfl rfl ⟨rfl, Nat.le_of_ble_eq_true rfl⟩ ?_
        refine v_getp rfl rfl rfl ?_
        refine v_callr rfl ⟨Nat.le_of_ble_eq_true rfl, Nat.le_of_ble_eq_true rfl, rfl, Nat.le_of_ble_eq_true rfl, rfl⟩ ?_
        refine S_ndSize q6.1 ?_
        refine v_ige rfl (fun h => absurd h (by omega)) (fun _ => ?_)
        refine v_load rfl rfl ⟨rfl, Nat.le_of_ble_eq_true rfl⟩ ?_
        refine v_getp rfl rfl rfl ?_
        refine v_load rfl rfl ⟨rfl, Nat.le_of_ble_eq_true rfl⟩ ?_
        refine v_callr rfl ⟨Nat.le_of_ble_eq_true rfl, Nat.le_of_ble_eq_true rfl, rfl, Nat.le_of_ble_eq_true rfl, rfl⟩ ?_
        refine S_isMendable q6.1 ?_
        rw [b2i_t c]
        refine v_ifne rfl (fun _ => ?_) (fun h => absurd h (by decide))
        refine v_load rfl rfl ⟨rfl, Nat.le_of_ble_eq_true rfl⟩ ?_
        refine v_getp rfl rfl rfl ?_
        refine v_load rfl rfl ⟨rfl, Nat.le_of_ble_eq_true rfl⟩ ?_
        refine v_getp rfl rfl rfl ?_
        refine v_load rfl rfl ⟨rfl, Nat.le_of_ble_eq_true rfl⟩ ?_
        refine v_load rfl rfl ⟨rfl, Nat.le_of_ble_eq_true rfl⟩ ?_
        refine v_getp rfl rfl rfl ?_
        refine v_load rfl rfl ⟨rfl, Nat.le_of_ble_eq_true rfl⟩ ?_
        refine v_callr rfl ⟨Nat.le_of_ble_eq_true rfl, Nat.le_of_ble_eq_true rfl, rfl, Nat.le_of_ble_eq_true rfl, rfl⟩ ?_
        refine S_firstOf q5 q6 hl ?_
        refine v_callr rfl ⟨Nat.le_of_ble_eq_true rfl, Nat.le_of_ble_eq_true rfl, rfl, Nat.le_of_ble_eq_true rfl, rfl⟩ ?_
        refine S_dFrom hD (Or.inl rfl) v0 hr.1 ⟨r1.1, r1.2⟩ (fun M1 d1 o1 => ?_)
        have q6' := TN_oR q6 o1 (by decide)
        refine v_load rfl rfl ⟨rfl, Nat.le_of_ble_eq_true rfl⟩ ?_
        refine v_getp rfl rfl rfl ?_
        refine v_load rfl rfl ⟨rfl, Nat.le_of_ble_eq_true rfl⟩ ?_
        refine v_push rfl ?_
        refine v_callr rfl ⟨Nat.le_of_ble_eq_true rfl, Nat.le_of_ble_eq_true rfl, rfl, Nat.le_of_ble_eq_true rfl, rfl⟩ ?_
        refine S_ndIsOf q6'.1 (by decide) ?_
        rw [b2i_t (decide_eq_true c17)]
        refine v_ifeq rfl (fun h => absurd h (by decide)) (fun _ => ?_)
        refine v_load rfl rfl ⟨rfl, Nat.le_of_ble_eq_true rfl⟩ ?_
        refine v_getp rfl rfl rfl ?_
        refine v_load rfl rfl ⟨rfl, Nat.le_of_ble_eq_true rfl⟩ ?_
        refine v_getp rfl rfl rfl ?_
        refine v_load rfl rfl ⟨rfl, Nat.le_of_ble_eq_true rfl⟩ ?_
        refine v_callr rfl ⟨Nat.le_of_ble_eq_true rfl, Nat.le_of_ble_eq_true rfl, rfl, Nat.le_of_ble_eq_true rfl, rfl⟩ ?_
        refine S_ndSign q6'.1 ?_
        refine v_callr rfl ⟨Nat.le_of_ble_eq_true rfl, Nat.le_of_ble_eq_true rfl, rfl, Nat.le_of_ble_eq_true rfl, rfl⟩ ?_
        refine S_dAdd d1 (fun M2 d2 o2 => ?_)
        refine fin M2 ?_ (z_oR_tr o1 o2); rw [mnL_y c, mgD_snoc]; unfold stp mnP; rw [if_pos c17]; exact d2
      · refine v_load rfl rfl ⟨rfl, Nat.le_of_ble_eq_true rfl⟩ ?_
        refine v_load rfl rfl ⟨rfl, Nat.le_of_ble_eq_true rfl⟩ ?_
        refine v_getp rfl rfl rfl ?_
        refine v_callr rfl ⟨Nat.le_of_ble_eq_true rfl, Nat.le_of_ble_eq_true rfl, rfl, Nat.le_of_ble_eq_true rfl, rfl⟩ ?_
        refine S_ndSize q6.1 ?_
        refine v_ige rfl (fun h => absurd h (by omega)) (fun _ => ?_)
        refine v_load rfl rfl ⟨rfl, Nat.le_of_ble_eq_true rfl⟩ ?_
        refine v_getp rfl rfl rfl ?_
        refine v_load rfl rfl ⟨rfl, Nat.le_of_ble_eq_true rfl⟩ ?_
        refine v_callr rfl ⟨Nat.le_of_ble_eq_true rfl, Nat.le_of_ble_eq_true rfl, rfl, Nat.le_of_ble_eq_true rfl, rfl⟩ ?_
        refine S_isMendable q6.1 ?_
        rw [b2i_t c]
        refine v_ifne rfl (fun _ => ?_) (fun h => absurd h (by decide))
        refine v_load rfl rfl ⟨rfl, Nat.le_of_ble_eq_true rfl⟩ ?_
        refine v_getp rfl rfl rfl ?_
        refine v_load rfl rfl ⟨rfl, Nat.le_of_ble_eq_true rfl⟩ ?_
        refine v_getp rfl rfl rfl ?_
        refine v_load rfl rfl ⟨rfl, Nat.le_of_ble_eq_true rfl⟩ ?_
        refine v_load rfl rfl ⟨rfl, Nat.le_of_ble_eq_true rfl⟩ ?_
        refine v_getp rfl rfl rfl ?_
        refine v_load rfl rfl ⟨rfl, Nat.le_of_ble_eq_true rfl⟩ ?_
        refine v_callr rfl ⟨Nat.le_of_ble_eq_true rfl, Nat.le_of_ble_eq_true rfl, rfl, Nat.le_of_ble_eq_true rfl, rfl⟩ ?_
        refine S_firstOf q5 q6 hl ?_
        refine v_callr rfl ⟨Nat.le_of_ble_eq_true rfl, Nat.le_of_ble_eq_true rfl, rfl, Nat.le_of_ble_eq_true rfl, rfl⟩ ?_
        refine S_dFrom hD (Or.inl rfl) v0 hr.1 ⟨r1.1, r1.2⟩ (fun M1 d1 o1 => ?_)
        have q6' := TN_oR q6 o1 (by decide)
        refine v_load rfl rfl ⟨rfl, Nat.le_of_ble_eq_true rfl⟩ ?_
        refine v_getp rfl rfl rfl ?_
        refine v_load rfl rfl ⟨rfl, Nat.le_of_ble_eq_true rfl⟩ ?_
        refine v_push rfl ?_
        refine v_callr rfl ⟨Nat.le_of_ble_eq_true rfl, Nat.le_of_ble_eq_true rfl, rfl, Nat.le_of_ble_eq_true rfl, rfl⟩ ?_
        refine S_ndIsOf q6'.1 (by decide) ?_
        rw [b2i_f (by simpa using c17)]
        refine v_ifeq rfl (fun _ => ?_) (fun h => absurd h (by decide))
        refine fin M1 ?_ o1; rw [mnL_y c, mgD_snoc]; unfold stp mnP; rw [if_neg c17, List.append_nil]; exact d1
    · have ihh := ih (j + 1) Mc (by omega) (by omega) (by rw [mnL_n c]; exact hD) ho
      rw [mnI_n c, mnL_n c, show ((j + 1 : Nat) : Int) = (j : Int) + 1 by omega] at ihh
      refine v_load rfl rfl ⟨rfl, Nat.le_of_ble_eq_true rfl⟩ ?_
      refine v_load rfl rfl ⟨rfl, Nat.le_of_ble_eq_true rfl⟩ ?_
      refine v_getp rfl rfl rfl ?_
      refine v_callr rfl ⟨Nat.le_of_ble_eq_true rfl, Nat.le_of_ble_eq_true rfl, rfl, Nat.le_of_ble_eq_true rfl, rfl⟩ ?_
      refine S_ndSize q6.1 ?_
      refine v_ige rfl (fun h => absurd h (by omega)) (fun _ => ?_)
      refine v_load rfl rfl ⟨rfl, Nat.le_of_ble_eq_true rfl⟩ ?_
      refine v_getp rfl rfl rfl ?_
      refine v_load rfl rfl ⟨rfl, Nat.le_of_ble_eq_true rfl⟩ ?_
      refine v_callr rfl ⟨Nat.le_of_ble_eq_true rfl, Nat.le_of_ble_eq_true rfl, rfl, Nat.le_of_ble_eq_true rfl, rfl⟩ ?_
      refine S_isMendable q6.1 ?_
      rw [b2i_f c]
      refine v_ifne rfl (fun h => absurd h (by decide)) (fun _ => ?_)
      refine v_goto rfl ?_
      refine v_iinc rfl rfl rfl (by omega) rfl ?_
      refine v_goto rfl ?_
      exact ihh
theorem S_mend (hC : CS s M) (hB : BS s n) (hn : n ≤ 600) (k : ∀ M', CS (mendS s).1 M' → z_oR 1 76 M M' → Q (some (0, (mendS s).2)) M') : v_call L (d + 102) 129 [(2, 1)] M Q := by
  obtain ⟨h1, -, -, -, h5, h6, -⟩ := id hC
  have hl := hB.1
  have hby := hB.2.2.1
  unfold mendS at k
  refine v_in ?_
  refine v_push rfl ?_
  refine v_store rfl ⟨rfl, Nat.le_of_ble_eq_true rfl, Nat.le_of_ble_eq_true rfl, rfl⟩ rfl ?_
  refine v_push rfl ?_
  refine v_store rfl ⟨rfl, Nat.le_of_ble_eq_true rfl, Nat.le_of_ble_eq_true rfl, rfl⟩ rfl ?_
  refine v_push rfl ?_
  refine v_store rfl ⟨rfl, Nat.le_of_ble_eq_true rfl, Nat.le_of_ble_eq_true rfl, rfl⟩ rfl ?_
  refine v_push rfl ?_
  refine v_store rfl ⟨rfl, Nat.le_of_ble_eq_true rfl, Nat.le_of_ble_eq_true rfl, rfl⟩ rfl ?_
  refine v_load rfl rfl ⟨rfl, Nat.le_of_ble_eq_true rfl⟩ ?_
  refine v_getp rfl rfl rfl ?_
  refine v_callr rfl ⟨Nat.le_of_ble_eq_true rfl, Nat.le_of_ble_eq_true rfl, rfl, Nat.le_of_ble_eq_true rfl, rfl⟩ ?_
  refine S_dClear (fun M1 d1 o1 => ?_)
  refine v_push rfl ?_
  refine v_store rfl ⟨rfl, Nat.le_of_ble_eq_true rfl, Nat.le_of_ble_eq_true rfl, rfl⟩ rfl ?_
  refine S_mend_loop M hC hl hby (fun M2 d2 o2 w => ?_) _ 0 M1 rfl (Nat.zero_le _) d1 o1
  have hok := mnL_ok (t := s.1.1) (NT (toks s.1.1)).length
  have hr := mgD_rng hok
  have hbe : z_by (mgT s.1.1 (mnL s.1.1 (NT (toks s.1.1)).length)) := mgT_by hby (mnL_by _)
  have hC2 := CS_draft hC o2 d2
  by_cases c : mnI s.1.1 (NT (toks s.1.1)).length = []
  · rw [if_pos c] at k
    have e0 : ((mnI s.1.1 (NT (toks s.1.1)).length).length : Int) = 0 := by rw [c]; rfl
    refine v_load rfl rfl ⟨rfl, Nat.le_of_ble_eq_true rfl⟩ ?_
    refine v_ifne rfl (fun h => absurd h (by omega)) (fun _ => ?_)
    refine v_push rfl ?_
    refine v_ret rfl rfl ?_
    exact k M2 hC2 (z_oR_w o2 (by decide) (by decide))
  · rw [if_neg c] at k
    have e0 : 0 < (mnI s.1.1 (NT (toks s.1.1)).length).length := List.length_pos_iff.mpr c
    have v2 : BV M2 2 s.1.1 0 := BV_oR h1 o2 (by decide)
    by_cases cc : ((mgT s.1.1 (mnL s.1.1 (NT (toks s.1.1)).length)).length : Int) ≤ 300
    · rw [if_pos cc] at k
      refine v_load rfl rfl ⟨rfl, Nat.le_of_ble_eq_true rfl⟩ ?_
      refine v_ifne rfl (fun _ => ?_) (fun h => absurd h (by omega))
      refine v_load rfl rfl ⟨rfl, Nat.le_of_ble_eq_true rfl⟩ ?_
      refine v_getp rfl rfl rfl ?_
      refine v_load rfl rfl ⟨rfl, Nat.le_of_ble_eq_true rfl⟩ ?_
      refine v_getp rfl rfl rfl ?_
      refine v_load rfl rfl ⟨rfl, Nat.le_of_ble_eq_true rfl⟩ ?_
      refine v_load rfl rfl ⟨rfl, Nat.le_of_ble_eq_true rfl⟩ ?_
      refine v_getp rfl rfl rfl ?_
      refine v_callr rfl ⟨Nat.le_of_ble_eq_true rfl, Nat.le_of_ble_eq_true rfl, rfl, Nat.le_of_ble_eq_true rfl, rfl⟩ ?_
      refine S_sizeT z_B2 v2 ?_
      refine v_callr rfl ⟨Nat.le_of_ble_eq_true rfl, Nat.le_of_ble_eq_true rfl, rfl, Nat.le_of_ble_eq_true rfl, rfl⟩ ?_
      refine S_dFrom d2 (Or.inl rfl) v2 hr.1 ⟨by omega, Int.le_refl _⟩ (fun M3 d3 o3 => ?_)
      have d3 : DRF (mgT s.1.1 (mnL s.1.1 (NT (toks s.1.1)).length)) M3 := d3
      have o13 := z_oR_tr o2 o3
      have hC3 := CS_draft hC o13 d3
      refine v_load rfl rfl ⟨rfl, Nat.le_of_ble_eq_true rfl⟩ ?_
      refine v_getp rfl rfl rfl ?_
      refine v_callr rfl ⟨Nat.le_of_ble_eq_true rfl, Nat.le_of_ble_eq_true rfl, rfl, Nat.le_of_ble_eq_true rfl, rfl⟩ ?_
      refine S_dSpill d3 hbe ?_
      rw [if_pos cc]
      refine v_ifeq rfl (fun _ => ?_) (fun h => absurd h (by decide))
      refine v_load rfl rfl ⟨rfl, Nat.le_of_ble_eq_true rfl⟩ ?_
      refine v_load rfl rfl ⟨rfl, Nat.le_of_ble_eq_true rfl⟩ ?_
      refine v_getp rfl rfl rfl ?_
      refine v_load rfl rfl ⟨rfl, Nat.le_of_ble_eq_true rfl⟩ ?_
      refine v_callr rfl ⟨Nat.le_of_ble_eq_true rfl, Nat.le_of_ble_eq_true rfl, rfl, Nat.le_of_ble_eq_true rfl, rfl⟩ ?_
      refine S_firstOf (RT_oR h5 o13 (by decide)) (TN_oR h6 o13 (by decide)) hl ?_
      refine v_load rfl rfl ⟨rfl, Nat.le_of_ble_eq_true rfl⟩ ?_
      refine v_getp rfl rfl rfl ?_
      refine v_load rfl rfl ⟨rfl, Nat.le_of_ble_eq_true rfl⟩ ?_
      refine v_callr rfl ⟨Nat.le_of_ble_eq_true rfl, Nat.le_of_ble_eq_true rfl, rfl, Nat.le_of_ble_eq_true rfl, rfl⟩ ?_
      refine S_endOf (BV_oR h1 o13 (by decide)) (RT_oR h5 o13 (by decide)) (TN_oR h6 o13 (by decide)) hl ?_
      refine v_callr rfl ⟨Nat.le_of_ble_eq_true rfl, Nat.le_of_ble_eq_true rfl, rfl, Nat.le_of_ble_eq_true rfl, rfl⟩ ?_
      refine S_settleS (n := n) hC3 hB hn (DRF_fit d3 hbe (show (mgT s.1.1 (mnL s.1.1 (NT (toks s.1.1)).length)).length ≤ 300 by omega)) hbe (fun M4 c4 o4 => ?_)
      refine v_pop rfl (Or.inl rfl) ?_
      refine v_load rfl rfl ⟨rfl, Nat.le_of_ble_eq_true rfl⟩ ?_
      refine v_ret rfl rfl ?_
      exact k M4 c4 (z_oR_tr (z_oR_w o13 (by decide) (by decide)) o4)
    · rw [if_neg cc] at k
      refine v_load rfl rfl ⟨rfl, Nat.le_of_ble_eq_true rfl⟩ ?_
      refine v_ifne rfl (fun _ => ?_) (fun h => absurd h (by omega))
      refine v_load rfl rfl ⟨rfl, Nat.le_of_ble_eq_true rfl⟩ ?_
      refine v_getp rfl rfl rfl ?_
      refine v_load rfl rfl ⟨rfl, Nat.le_of_ble_eq_true rfl⟩ ?_
      refine v_getp rfl rfl rfl ?_
      refine v_load rfl rfl ⟨rfl, Nat.le_of_ble_eq_true rfl⟩ ?_
      refine v_load rfl rfl ⟨rfl, Nat.le_of_ble_eq_true rfl⟩ ?_
      refine v_getp rfl rfl rfl ?_
      refine v_callr rfl ⟨Nat.le_of_ble_eq_true rfl, Nat.le_of_ble_eq_true rfl, rfl, Nat.le_of_ble_eq_true rfl, rfl⟩ ?_
      refine S_sizeT z_B2 v2 ?_
      refine v_callr rfl ⟨Nat.le_of_ble_eq_true rfl, Nat.le_of_ble_eq_true rfl, rfl, Nat.le_of_ble_eq_true rfl, rfl⟩ ?_
      refine S_dFrom d2 (Or.inl rfl) v2 hr.1 ⟨by omega, Int.le_refl _⟩ (fun M3 d3 o3 => ?_)
      have d3 : DRF (mgT s.1.1 (mnL s.1.1 (NT (toks s.1.1)).length)) M3 := d3
      have o13 := z_oR_tr o2 o3
      have hC3 := CS_draft hC o13 d3
      refine v_load rfl rfl ⟨rfl, Nat.le_of_ble_eq_true rfl⟩ ?_
      refine v_getp rfl rfl rfl ?_
      refine v_callr rfl ⟨Nat.le_of_ble_eq_true rfl, Nat.le_of_ble_eq_true rfl, rfl, Nat.le_of_ble_eq_true rfl, rfl⟩ ?_
      refine S_dSpill d3 hbe ?_
      rw [if_neg cc]
      refine v_ifeq rfl (fun h => absurd h (by decide)) (fun _ => ?_)
      refine v_push rfl ?_
      refine v_ret rfl rfl ?_
      exact k M3 hC3 (z_oR_w o13 (by decide) (by decide))
theorem R_isMended {i : Nat} (hS : RSt t M) (hi : i < (NT (toks t)).length) (k : Q (some (0, b2i (mnd t i))) M) : v_call L d 258 [(2, 77), (0, (i : Int))] M Q := by
  have hk : b2i (mnd t i) = if (nd (NT (toks t)) (i : Int)).1 = 9 ∨ ((nd (NT (toks t)) (i : Int)).1 = 17 ∧ (nd (NT (toks t)) (i : Int)).2.2.2.2.2.2.2 ≠ 0) then 1 else 0 := by unfold mnd b2i; simp
  rw [hk] at k
  have hlN := NT_1216 hS
  obtain ⟨g1, -, -, -, -, -, -, g8⟩ := TM_nd hS (i := (i : Int)) ⟨by omega, by omega⟩
  have l := leaf1 (t := t) (i := (i : Int)) ⟨by omega, by omega⟩
  unfold sgF at g8
  refine v_in ?_
  refine v_load rfl rfl ⟨rfl, Nat.le_of_ble_eq_true rfl⟩ ?_
  refine v_getp rfl rfl rfl ?_
  refine v_load rfl rfl ⟨rfl, Nat.le_of_ble_eq_true rfl⟩ ?_
  refine v_ald9 rfl rfl ⟨by omega, by show _ < (1600 : Int); omega⟩ ?_
  rw [g1]
  refine v_push rfl ?_
  refine v_ieq rfl (fun c4 => ?_) (fun c4 => ?_)
  · refine v_push rfl ?_
    refine v_goto rfl ?_
    refine v_retz rfl (by first | exact Or.inl rfl | exact Or.inr rfl | exact b2i_01 _ | omega) ?_
    exact qeq k (by split <;> omega)
  · refine v_load rfl rfl ⟨rfl, Nat.le_of_ble_eq_true rfl⟩ ?_
    refine v_getp rfl rfl rfl ?_
    refine v_load rfl rfl ⟨rfl, Nat.le_of_ble_eq_true rfl⟩ ?_
    refine v_ald9 rfl rfl ⟨by omega, by show _ < (1600 : Int); omega⟩ ?_
    rw [g1]
    refine v_push rfl ?_
    refine v_ine rfl (fun c5 => ?_) (fun c5 => ?_)
    · refine v_push rfl ?_
      refine v_retz rfl (by first | exact Or.inl rfl | exact Or.inr rfl | exact b2i_01 _ | omega) ?_
      exact qeq k (by split <;> omega)
    · refine v_load rfl rfl ⟨rfl, Nat.le_of_ble_eq_true rfl⟩ ?_
      refine v_getp rfl rfl rfl ?_
      refine v_load rfl rfl ⟨rfl, Nat.le_of_ble_eq_true rfl⟩ ?_
      refine v_ald9 rfl rfl ⟨by omega, by show _ < (1600 : Int); omega⟩ ?_
      rw [g8]
      refine v_ifle rfl (fun c6 => ?_) (fun c6 => ?_)
      · refine v_push rfl ?_
        refine v_retz rfl (by first | exact Or.inl rfl | exact Or.inr rfl | exact b2i_01 _ | omega) ?_
        exact qeq k (by split <;> omega)
      · refine v_push rfl ?_
        refine v_goto rfl ?_
        refine v_retz rfl (by first | exact Or.inl rfl | exact Or.inr rfl | exact b2i_01 _ | omega) ?_
        exact qeq k (by split <;> omega)
theorem mnL_lo {t : List Int} (n : Nat) : 0 ≤ (t.length : Int) + lnP (mnL t n) := by
  have := mgT_len (mnL_ok (t := t) n)
  omega
theorem mnL_hi {t : List Int} : ∀ n : Nat, lnP (mnL t n) ≤ (n : Int)
  | 0 => by show (0 : Int) ≤ _; omega
  | n + 1 => by
    have := mnL_hi (t := t) n
    by_cases c : mnd t n = true
    · rw [mnL_y c, lnP_snoc]
      have := pF_pE (t := t) (n : Int)
      unfold mnP
      show _ + ((((if _ then _ else _ : List Int)).length : Int) - (pE t (n : Int) - pF t (n : Int))) ≤ _
      split <;> simp <;> omega
    · rw [mnL_n c]; omega
theorem mnd_pl {t : List Int} {n : Nat} (h : mnd t n = true) : ((mnP t n).2.2.length : Int) - (pE t (n : Int) - pF t (n : Int)) = if (nd (NT (toks t)) (n : Int)).1 = 17 then 1 else -(pE t (n : Int) - pF t (n : Int)) := by
  have h1 := mnd_in h
  have l := leaf1 (t := t) (i := (n : Int)) ⟨by omega, by omega⟩ (by omega)
  unfold mnP
  show (((if _ then _ else _ : List Int)).length : Int) - _ = _
  by_cases c : (nd (NT (toks t)) (n : Int)).1 = 17
  · rw [if_pos c, if_pos c]
    have e := (l.2.2.2.1 c).1
    unfold pE pF
    rw [if_neg (by omega), if_neg (by omega), if_pos e, e, Int.add_zero]
    show (1 : Int) - _ = 1
    omega
  · rw [if_neg c, if_neg c]
    show (0 : Int) - _ = _
    omega
theorem R_mend_cnt {w4 w5 : zV} (hS : RSt t M) (hl : t.length ≤ 300) (k : ∀ w, v_wp L (d + 12) 259 69 [(2, 77), (0, ((mnI t (NT (toks t)).length).length : Int)), (0, (t.length : Int) + lnP (mnL t (NT (toks t)).length)), w, w4, w5] [] M Q) : ∀ (n j : Nat), n = (NT (toks t)).length - j → j ≤ (NT (toks t)).length → v_wp L (d + 12) 259 9 [(2, 77), (0, ((mnI t j).length : Int)), (0, (t.length : Int) + lnP (mnL t j)), (0, (j : Int)), w4, w5] [] M Q := by
  intro n
  have hlN := NT_1216 hS
  have h44 := (TM_len hS.2.2.1).1
  induction n with
  | zero =>
    intro j hn hj
    have ej : j = (NT (toks t)).length := by omega
    subst ej
    refine v_load rfl rfl ⟨rfl, Nat.le_of_ble_eq_true rfl⟩ ?_
    refine v_load rfl rfl ⟨rfl, Nat.le_of_ble_eq_true rfl⟩ ?_
    refine v_getx rfl rfl (h44) ?_
    refine v_ige rfl (fun _ => ?_) (fun h => absurd h (by omega))
    exact k _
  | succ n ih =>
    intro j hn hj
    have ihh := ih (j + 1) (by omega) (by omega)
    have hll : (mnI t j).length ≤ j := flt_len (mnd t) j
    have q1 := mnL_lo (t := t) j
    have q2 := mnL_hi (t := t) j
    have r1 := pF_rng t (j : Int)
    have r2 := pE_rng t (j : Int)
    obtain ⟨g1, -⟩ := TM_nd hS (i := (j : Int)) ⟨by omega, by omega⟩
    by_cases c : mnd t j = true
    · have pl := mnd_pl c
      rw [mnI_y c, mnL_y c, lnP_snoc, List.length_append, show ((mnP t j).2.1 - (mnP t j).1) = pE t (j : Int) - pF t (j : Int) from rfl, pl, show (((mnI t j).length + [j].length : Nat) : Int) = ((mnI t j).length : Int) + 1 by rw [List.length_singleton]; omega, show ((j + 1 : Nat) : Int) = (j : Int) + 1 by omega] at ihh
      refine v_load rfl rfl ⟨rfl, Nat.le_of_ble_eq_true rfl⟩ ?_
      refine v_load rfl rfl ⟨rfl, Nat.le_of_ble_eq_true rfl⟩ ?_
      refine v_getx rfl rfl (h44) ?_
      refine v_ige rfl (fun h => absurd h (by omega)) (fun _ => ?_)
      refine v_load rfl rfl ⟨rfl, Nat.le_of_ble_eq_true rfl⟩ ?_
      refine v_load rfl rfl ⟨rfl, Nat.le_of_ble_eq_true rfl⟩ ?_
      refine v_callr rfl ⟨Nat.le_of_ble_eq_true rfl, Nat.le_of_ble_eq_true rfl, rfl, Nat.le_of_ble_eq_true rfl, rfl⟩ ?_
      refine R_isMended hS (by omega) ?_
      rw [b2i_t c]
      refine v_ifne rfl (fun _ => ?_) (fun h => absurd h (by decide))
      refine v_load rfl rfl ⟨rfl, Nat.le_of_ble_eq_true rfl⟩ ?_
      refine v_push rfl ?_
      refine v_add rfl (by omega) ?_
      refine v_store rfl ⟨rfl, Nat.le_of_ble_eq_true rfl, Nat.le_of_ble_eq_true rfl, rfl⟩ rfl ?_
      refine v_load rfl rfl ⟨rfl, Nat.le_of_ble_eq_true rfl⟩ ?_
      refine v_getp rfl rfl rfl ?_
      refine v_load rfl rfl ⟨rfl, Nat.le_of_ble_eq_true rfl⟩ ?_
      refine v_ald9 rfl rfl ⟨by omega, by show _ < (1600 : Int); omega⟩ ?_
      rw [g1]
      refine v_push rfl ?_
      refine v_ine rfl (fun e => ?_) (fun e => ?_)
      · refine v_load rfl rfl ⟨rfl, Nat.le_of_ble_eq_true rfl⟩ ?_
        refine v_load rfl rfl ⟨rfl, Nat.le_of_ble_eq_true rfl⟩ ?_
        refine v_load rfl rfl ⟨rfl, Nat.le_of_ble_eq_true rfl⟩ ?_
        refine v_callr rfl ⟨Nat.le_of_ble_eq_true rfl, Nat.le_of_ble_eq_true rfl, rfl, Nat.le_of_ble_eq_true rfl, rfl⟩ ?_
        refine R_to hS ⟨by omega, by omega⟩ ?_
        refine v_load rfl rfl ⟨rfl, Nat.le_of_ble_eq_true rfl⟩ ?_
        refine v_load rfl rfl ⟨rfl, Nat.le_of_ble_eq_true rfl⟩ ?_
        refine v_callr rfl ⟨Nat.le_of_ble_eq_true rfl, Nat.le_of_ble_eq_true rfl, rfl, Nat.le_of_ble_eq_true rfl, rfl⟩ ?_
        refine R_from hS ⟨by omega, by omega⟩ ?_
        refine v_sub rfl (by omega) ?_
        refine v_sub rfl (by omega) ?_
        refine v_store rfl ⟨rfl, Nat.le_of_ble_eq_true rfl, Nat.le_of_ble_eq_true rfl, rfl⟩ rfl ?_
        refine v_iinc rfl rfl rfl (by omega) rfl ?_
        refine v_goto rfl ?_
        rw [if_neg e] at ihh; rw [show (t.length : Int) + lnP (mnL t j) - (pE t (j : Int) - pF t (j : Int)) = (t.length : Int) + (lnP (mnL t j) + -(pE t (j : Int) - pF t (j : Int))) by omega]; exact ihh
      · refine v_load rfl rfl ⟨rfl, Nat.le_of_ble_eq_true rfl⟩ ?_
        refine v_push rfl ?_
        refine v_add rfl (by omega) ?_
        refine v_goto rfl ?_
        refine v_store rfl ⟨rfl, Nat.le_of_ble_eq_true rfl, Nat.le_of_ble_eq_true rfl, rfl⟩ rfl ?_
        refine v_iinc rfl rfl rfl (by omega) rfl ?_
        refine v_goto rfl ?_
        rw [if_pos (by omega)] at ihh; rw [show (t.length : Int) + lnP (mnL t j) + 1 = (t.length : Int) + (lnP (mnL t j) + 1) by omega]; exact ihh
    · rw [mnI_n c, mnL_n c, show ((j + 1 : Nat) : Int) = (j : Int) + 1 by omega] at ihh
      refine v_load rfl rfl ⟨rfl, Nat.le_of_ble_eq_true rfl⟩ ?_
      refine v_load rfl rfl ⟨rfl, Nat.le_of_ble_eq_true rfl⟩ ?_
      refine v_getx rfl rfl (h44) ?_
      refine v_ige rfl (fun h => absurd h (by omega)) (fun _ => ?_)
      refine v_load rfl rfl ⟨rfl, Nat.le_of_ble_eq_true rfl⟩ ?_
      refine v_load rfl rfl ⟨rfl, Nat.le_of_ble_eq_true rfl⟩ ?_
      refine v_callr rfl ⟨Nat.le_of_ble_eq_true rfl, Nat.le_of_ble_eq_true rfl, rfl, Nat.le_of_ble_eq_true rfl, rfl⟩ ?_
      refine R_isMended hS (by omega) ?_
      rw [b2i_f c]
      refine v_ifne rfl (fun h => absurd h (by decide)) (fun _ => ?_)
      refine v_goto rfl ?_
      refine v_iinc rfl rfl rfl (by omega) rfl ?_
      refine v_goto rfl ?_
      exact ihh
theorem mnL_part {t : List Int} {j n : Nat} (h : j ≤ n) : ((mgF t (mnL t j)).1.length) ≤ (mgF t (mnL t n)).1.length := by
  obtain ⟨R, e⟩ := flt_pre (mnd t) j (n - j)
  rw [show j + (n - j) = n by omega] at e
  unfold mnL mnI
  rw [e, List.map_append]
  exact mgF_grow _
theorem R_mend_loop {l1 l2 : Int} (M0 : zM) (hS : RSt t M0) (hfl : (mgF t (mnL t (NT (toks t)).length)).1.length ≤ 300) (k : ∀ M', RFr (mgF t (mnL t (NT (toks t)).length)).1 M' → oF M0 M' → ∀ w, v_wp L (d + 12) 259 183 [(2, 77), (0, l1), (0, l2), (0, mgA (mnL t (NT (toks t)).length)), (0, (mgF t (mnL t (NT (toks t)).length)).2), w] [] M' Q) : ∀ (n j : Nat) (Mc : zM), n = (NT (toks t)).length - j → j ≤ (NT (toks t)).length → RFr (mgF t (mnL t j)).1 Mc → oF M0 Mc → v_wp L (d + 12) 259 98 [(2, 77), (0, l1), (0, l2), (0, mgA (mnL t j)), (0, (mgF t (mnL t j)).2), (0, (j : Int))] [] Mc Q := by
  intro n
  have hlN := NT_1216 hS
  induction n with
  | zero =>
    intro j Mc hn hj hF ho
    have ej : j = (NT (toks t)).length := by omega
    subst ej
    have h44 : Mc 77 44 = ((NT (toks t)).length : Int) := by rw [ho 77 44 (by decide) (by decide)]; exact (TM_len hS.2.2.1).1
    refine v_load rfl rfl ⟨rfl, Nat.le_of_ble_eq_true rfl⟩ ?_
    refine v_load rfl rfl ⟨rfl, Nat.le_of_ble_eq_true rfl⟩ ?_
    refine v_getx rfl rfl (h44) ?_
    refine v_ige rfl (fun _ => ?_) (fun h => absurd h (by omega))
    exact k Mc hF ho _
  | succ n ih =>
    intro j Mc hn hj hF ho
    have hSc : RSt t Mc := RSt_fr hS (fun j hj => ho 77 j (by decide) (by omega)) (fun b j hb => ho b j (by omega) (by omega))
    have h44 := (TM_len hSc.2.2.1).1
    have hin : 0 ≤ (j : Int) ∧ (j : Int) < ((NT (toks t)).length : Int) := ⟨by omega, by omega⟩
    have r1 := pF_rng t (j : Int)
    have r2 := pE_rng t (j : Int)
    have hgr := mnL_part (t := t) (j := j + 1) (n := (NT (toks t)).length) (by omega)
    have hgr0 := mnL_part (t := t) (j := j) (n := j + 1) (by omega)
    by_cases c : mnd t j = true
    · have hok := mnL_ok (t := t) (j + 1)
      have hokj := mnL_ok (t := t) j
      have hp := mnd_in c
      have lf := leaf1 (t := t) hin (by omega)
      -- behind the byte that may be missing
      have fin : ∀ Md, RFr (mgF t (mnL t (j + 1))).1 Md → oF M0 Md → v_wp L (d + 12) 259 169 [(2, 77), (0, l1), (0, l2), (0, mgA (mnL t (j + 1))), (0, (mgF t (mnL t j)).2), (0, (j : Int))] [] Md Q := by
        intro Md hFd hod
        have hSd : RSt t Md := RSt_fr hS (fun j hj => hod 77 j (by decide) (by omega)) (fun b j hb => hod b j (by omega) (by omega))
        have ihh := ih (j + 1) Md (by omega) (by omega) hFd hod
        have e2 : (mgF t (mnL t (j + 1))).2 = pE t (j : Int) := by rw [mnL_y c, mgF_snoc]; split <;> rfl
        rw [e2, show ((j + 1 : Nat) : Int) = (j : Int) + 1 by omega] at ihh
        refine v_load rfl rfl ⟨rfl, Nat.le_of_ble_eq_true rfl⟩ ?_
        refine v_load rfl rfl ⟨rfl, Nat.le_of_ble_eq_true rfl⟩ ?_
        refine v_callr rfl ⟨Nat.le_of_ble_eq_true rfl, Nat.le_of_ble_eq_true rfl, rfl, Nat.le_of_ble_eq_true rfl, rfl⟩ ?_
        refine R_to hSd hin ?_
        refine v_store rfl ⟨rfl, Nat.le_of_ble_eq_true rfl, Nat.le_of_ble_eq_true rfl, rfl⟩ rfl ?_
        refine v_iinc rfl rfl rfl (by omega) rfl ?_
        refine v_goto rfl ?_
        exact ihh
      -- behind the text between
      have mid : ∀ (Md : zM) (fr : List Int), RFr fr Md → oF M0 Md → (mgF t (mnL t (j + 1))).1 = fr ++ (mnP t j).2.2 → v_wp L (d + 12) 259 146 [(2, 77), (0, l1), (0, l2), (0, mgA (mnL t (j + 1))), (0, (mgF t (mnL t j)).2), (0, (j : Int))] [] Md Q := by
        intro Md fr hFd hod he
        have hSd : RSt t Md := RSt_fr hS (fun j hj => hod 77 j (by decide) (by omega)) (fun b j hb => hod b j (by omega) (by omega))
        obtain ⟨g1, -, -, -, -, -, -, g8⟩ := TM_nd hSd hin
        have hle : fr.length ≤ 300 := by rw [he, List.length_append] at hgr; omega
        by_cases c17 : (nd (NT (toks t)) (j : Int)).1 = 17
        · unfold sgF at g8
          rw [if_pos c17] at g8
          unfold mnP at he
          rw [if_pos c17] at he
          refine v_load rfl rfl ⟨rfl, Nat.le_of_ble_eq_true rfl⟩ ?_
          refine v_getp rfl rfl rfl ?_
          refine v_load rfl rfl ⟨rfl, Nat.le_of_ble_eq_true rfl⟩ ?_
          refine v_ald9 rfl rfl ⟨by omega, by show _ < (1600 : Int); omega⟩ ?_
          rw [g1]
          refine v_push rfl ?_
          refine v_ine rfl (fun h => absurd h (by omega)) (fun _ => ?_)
          refine v_load rfl rfl ⟨rfl, Nat.le_of_ble_eq_true rfl⟩ ?_
          refine v_load rfl rfl ⟨rfl, Nat.le_of_ble_eq_true rfl⟩ ?_
          refine v_getp rfl rfl rfl ?_
          refine v_load rfl rfl ⟨rfl, Nat.le_of_ble_eq_true rfl⟩ ?_
          refine v_ald9 rfl rfl ⟨by omega, by show _ < (1600 : Int); omega⟩ ?_
          rw [g8]
          refine v_callr rfl ⟨Nat.le_of_ble_eq_true rfl, Nat.le_of_ble_eq_true rfl, rfl, Nat.le_of_ble_eq_true rfl, rfl⟩ ?_
          refine R_comes hFd (by omega) (fun M2 f2 o2 => ?_)
          exact fin M2 (by rw [he]; exact f2) (oF_tr hod o2)
        · unfold mnP at he
          rw [if_neg c17, List.append_nil] at he
          refine v_load rfl rfl ⟨rfl, Nat.le_of_ble_eq_true rfl⟩ ?_
          refine v_getp rfl rfl rfl ?_
          refine v_load rfl rfl ⟨rfl, Nat.le_of_ble_eq_true rfl⟩ ?_
          refine v_ald9 rfl rfl ⟨by omega, by show _ < (1600 : Int); omega⟩ ?_
          rw [g1]
          refine v_push rfl ?_
          refine v_ine rfl (fun _ => ?_) (fun h => absurd h (by omega))
          exact fin Md (by rw [he]; exact hFd) hod
      by_cases e0 : mnL t j = []
      · have eA : mgA (mnL t j) = -1 := by rw [e0]; rfl
        have eA' : mgA (mnL t (j + 1)) = pF t (j : Int) := by rw [mnL_y c, mgA_snoc, if_pos e0]; rfl
        have eF : (mgF t (mnL t (j + 1))).1 = (mgF t (mnL t j)).1 ++ (mnP t j).2.2 := by rw [mnL_y c, mgF_snoc, if_pos e0, e0]; rfl
        have md := mid Mc _ hF ho eF
        rw [eA'] at md
        refine v_load rfl rfl ⟨rfl, Nat.le_of_ble_eq_true rfl⟩ ?_
        refine v_load rfl rfl ⟨rfl, Nat.le_of_ble_eq_true rfl⟩ ?_
        refine v_getx rfl rfl (h44) ?_
        refine v_ige rfl (fun h => absurd h (by omega)) (fun _ => ?_)
        refine v_load rfl rfl ⟨rfl, Nat.le_of_ble_eq_true rfl⟩ ?_
        refine v_load rfl rfl ⟨rfl, Nat.le_of_ble_eq_true rfl⟩ ?_
        refine v_callr rfl ⟨Nat.le_of_ble_eq_true rfl, Nat.le_of_ble_eq_true rfl, rfl, Nat.le_of_ble_eq_true rfl, rfl⟩ ?_
        refine R_isMended hSc (by omega) ?_
        rw [b2i_t c]
        refine v_ifne rfl (fun _ => ?_) (fun h => absurd h (by decide))
        refine v_load rfl rfl ⟨rfl, Nat.le_of_ble_eq_true rfl⟩ ?_
        refine v_push rfl ?_
        refine v_ine rfl (fun h => absurd h (by omega)) (fun _ => ?_)
        refine v_load rfl rfl ⟨rfl, Nat.le_of_ble_eq_true rfl⟩ ?_
        refine v_load rfl rfl ⟨rfl, Nat.le_of_ble_eq_true rfl⟩ ?_
        refine v_callr rfl ⟨Nat.le_of_ble_eq_true rfl, Nat.le_of_ble_eq_true rfl, rfl, Nat.le_of_ble_eq_true rfl, rfl⟩ ?_
        refine R_from hSc hin ?_
        refine v_store rfl ⟨rfl, Nat.le_of_ble_eq_true rfl, Nat.le_of_ble_eq_true rfl, rfl⟩ rfl ?_
        refine v_goto rfl ?_
        exact md
      · have hA := mgA_rng (t := t) e0 hokj
        have eA' : mgA (mnL t (j + 1)) = mgA (mnL t j) := by rw [mnL_y c, mgA_snoc, if_neg e0]
        have eF : (mgF t (mnL t (j + 1))).1 = (mgF t (mnL t j)).1 ++ sub t (mgF t (mnL t j)).2 (pF t (j : Int)) ++ (mnP t j).2.2 := by rw [mnL_y c, mgF_snoc, if_neg e0]; rfl
        have hsl : ((mgF t (mnL t j)).1.length : Int) + (pF t (j : Int) - (mgF t (mnL t j)).2) ≤ 301 := by
          rw [eF, List.length_append, List.length_append] at hgr
          by_cases z : (mgF t (mnL t j)).2 ≤ pF t (j : Int)
          · have := sub_len (t := t) (a := (mgF t (mnL t j)).2) (b := pF t (j : Int)) ⟨by omega, z, r1.2⟩
            omega
          · omega
        refine v_load rfl rfl ⟨rfl, Nat.le_of_ble_eq_true rfl⟩ ?_
        refine v_load rfl rfl ⟨rfl, Nat.le_of_ble_eq_true rfl⟩ ?_
        refine v_getx rfl rfl (h44) ?_
        refine v_ige rfl (fun h => absurd h (by omega)) (fun _ => ?_)
        refine v_load rfl rfl ⟨rfl, Nat.le_of_ble_eq_true rfl⟩ ?_
        refine v_load rfl rfl ⟨rfl, Nat.le_of_ble_eq_true rfl⟩ ?_
        refine v_callr rfl ⟨Nat.le_of_ble_eq_true rfl, Nat.le_of_ble_eq_true rfl, rfl, Nat.le_of_ble_eq_true rfl, rfl⟩ ?_
        refine R_isMended hSc (by omega) ?_
        rw [b2i_t c]
        refine v_ifne rfl (fun _ => ?_) (fun h => absurd h (by decide))
        refine v_load rfl rfl ⟨rfl, Nat.le_of_ble_eq_true rfl⟩ ?_
        refine v_push rfl ?_
        refine v_ine rfl (fun _ => ?_) (fun h => absurd h (by omega))
        refine v_load rfl rfl ⟨rfl, Nat.le_of_ble_eq_true rfl⟩ ?_
        refine v_load rfl rfl ⟨rfl, Nat.le_of_ble_eq_true rfl⟩ ?_
        refine v_load rfl rfl ⟨rfl, Nat.le_of_ble_eq_true rfl⟩ ?_
        refine v_load rfl rfl ⟨rfl, Nat.le_of_ble_eq_true rfl⟩ ?_
        refine v_callr rfl ⟨Nat.le_of_ble_eq_true rfl, Nat.le_of_ble_eq_true rfl, rfl, Nat.le_of_ble_eq_true rfl, rfl⟩ ?_
        refine R_from hSc hin ?_
        refine v_callr rfl ⟨Nat.le_of_ble_eq_true rfl, Nat.le_of_ble_eq_true rfl, rfl, Nat.le_of_ble_eq_true rfl, rfl⟩ ?_
        refine R_comeText hF hSc.1 ⟨by omega, r1.2⟩ hsl (fun M2 f2 o2 => ?_)
        have md := mid M2 _ f2 (oF_tr ho o2) eF; rw [eA'] at md; exact md
    · have ihh := ih (j + 1) Mc (by omega) (by omega) (by rw [mnL_n c]; exact hF) ho
      rw [mnL_n c, show ((j + 1 : Nat) : Int) = (j : Int) + 1 by omega] at ihh
      refine v_load rfl rfl ⟨rfl, Nat.le_of_ble_eq_true rfl⟩ ?_
      refine v_load rfl rfl ⟨rfl, Nat.le_of_ble_eq_true rfl⟩ ?_
      refine v_getx rfl rfl (h44) ?_
      refine v_ige rfl (fun h => absurd h (by omega)) (fun _ => ?_)
      refine v_load rfl rfl ⟨rfl, Nat.le_of_ble_eq_true rfl⟩ ?_
      refine v_load rfl rfl ⟨rfl, Nat.le_of_ble_eq_true rfl⟩ ?_
      refine v_callr rfl ⟨Nat.le_of_ble_eq_true rfl, Nat.le_of_ble_eq_true rfl, rfl, Nat.le_of_ble_eq_true rfl, rfl⟩ ?_
      refine R_isMended hSc (by omega) ?_
      rw [b2i_f c]
      refine v_ifne rfl (fun h => absurd h (by decide)) (fun _ => ?_)
      refine v_goto rfl ?_
      refine v_iinc rfl rfl rfl (by omega) rfl ?_
      refine v_goto rfl ?_
      exact ihh
theorem R_mend (hC : RS s M) (hB : BS s n) (hn : n ≤ 600) (k : ∀ M', RS (mendS s).1 M' → z_oR 77 127 M M' → Q (some (0, (mendS s).2)) M') : v_call L (d + 12) 259 [(2, 77)] M Q := by
  have hS := hC.1
  have h4 := hS.1.1
  have hl := hB.1
  have hlN := NT_1216 hS
  unfold mendS at k
  refine v_in ?_
  refine v_push rfl ?_
  refine v_store rfl ⟨rfl, Nat.le_of_ble_eq_true rfl, Nat.le_of_ble_eq_true rfl, rfl⟩ rfl ?_
  refine v_load rfl rfl ⟨rfl, Nat.le_of_ble_eq_true rfl⟩ ?_
  refine v_getx rfl rfl (h4) ?_
  refine v_store rfl ⟨rfl, Nat.le_of_ble_eq_true rfl, Nat.le_of_ble_eq_true rfl, rfl⟩ rfl ?_
  refine v_push rfl ?_
  refine v_store rfl ⟨rfl, Nat.le_of_ble_eq_true rfl, Nat.le_of_ble_eq_true rfl, rfl⟩ rfl ?_
  have hok := mnL_ok (t := s.1.1) (NT (toks s.1.1)).length
  have hml := mgT_len hok
  have start := R_mend_cnt (L := L) (d := d) (Q := Q) (w4 := (9, 0)) (w5 := (9, 0)) hS hl (fun w => ?_) _ 0 rfl (Nat.zero_le _)
  · rw [show (s.1.1.length : Int) + lnP (mnL s.1.1 0) = (s.1.1.length : Int) by show _ + (0 : Int) = _; omega] at start
    exact start
  by_cases c : mnI s.1.1 (NT (toks s.1.1)).length = []
  · rw [if_pos c] at k
    have e0 : ((mnI s.1.1 (NT (toks s.1.1)).length).length : Int) = 0 := by rw [c]; rfl
    refine v_load rfl rfl ⟨rfl, Nat.le_of_ble_eq_true rfl⟩ ?_
    refine v_ifne rfl (fun h => absurd h (by omega)) (fun _ => ?_)
    refine v_push rfl ?_
    refine v_ret rfl rfl ?_
    exact k M hC z_oR_rf
  · rw [if_neg c] at k
    have e0 : 0 < (mnI s.1.1 (NT (toks s.1.1)).length).length := List.length_pos_iff.mpr c
    have hne : mnL s.1.1 (NT (toks s.1.1)).length ≠ [] := fun z => c (map_nil.mp z)
    by_cases cc : ((mgT s.1.1 (mnL s.1.1 (NT (toks s.1.1)).length)).length : Int) ≤ 300
    · rw [if_pos cc] at k
      have hA := mgA_rng (t := s.1.1) hne hok
      have eT := mgT_ed (t := s.1.1) hne
      have hel := edT_len (t := s.1.1) (fr := (mgF s.1.1 (mnL s.1.1 (NT (toks s.1.1)).length)).1) (a := mgA (mnL s.1.1 (NT (toks s.1.1)).length)) (b := (mgF s.1.1 (mnL s.1.1 (NT (toks s.1.1)).length)).2) hA
      rw [← eT] at hel
      have f0 := RFr_0 (M := M)
      have hC1 := RS_oF hC f0.2
      refine v_load rfl rfl ⟨rfl, Nat.le_of_ble_eq_true rfl⟩ ?_
      refine v_ifne rfl (fun _ => ?_) (fun h => absurd h (by omega))
      refine v_load rfl rfl ⟨rfl, Nat.le_of_ble_eq_true rfl⟩ ?_
      refine v_push rfl ?_
      refine v_ile rfl (fun _ => ?_) (fun h => absurd h (by omega))
      refine v_push rfl ?_
      refine v_store rfl ⟨rfl, Nat.le_of_ble_eq_true rfl, Nat.le_of_ble_eq_true rfl, rfl⟩ rfl ?_
      refine v_push rfl ?_
      refine v_store rfl ⟨rfl, Nat.le_of_ble_eq_true rfl, Nat.le_of_ble_eq_true rfl, rfl⟩ rfl ?_
      refine v_load rfl rfl ⟨rfl, Nat.le_of_ble_eq_true rfl⟩ ?_
      refine v_push rfl ?_
      refine v_puti rfl rfl rfl ?_
      refine v_push rfl ?_
      refine v_store rfl ⟨rfl, Nat.le_of_ble_eq_true rfl, Nat.le_of_ble_eq_true rfl, rfl⟩ rfl ?_
      refine R_mend_loop (t := s.1.1) (z_upd M 77 5 0) hC1.1 (by omega) (fun M2 f2 o2 w => ?_) _ 0 _ rfl (Nat.zero_le _) f0.1 oF_rf
      have hC2 := RS_oF hC1 o2
      have eA : mgA (mnL s.1.1 (NT (toks s.1.1)).length) = pF s.1.1 (hdI (mnI s.1.1 (NT (toks s.1.1)).length)) := by
        unfold mnL
        rw [mgA_map c]
        have := (hdI_nn c).1
        show pF s.1.1 (((hdI (mnI s.1.1 (NT (toks s.1.1)).length)).toNat : Nat) : Int) = _
        rw [show (((hdI (mnI s.1.1 (NT (toks s.1.1)).length)).toNat : Nat) : Int) = hdI (mnI s.1.1 (NT (toks s.1.1)).length) by omega]
      have eE := mnL_end (t := s.1.1) _ c
      rw [eT, ← eA, ← eE] at k
      refine v_load rfl rfl ⟨rfl, Nat.le_of_ble_eq_true rfl⟩ ?_
      refine v_load rfl rfl ⟨rfl, Nat.le_of_ble_eq_true rfl⟩ ?_
      refine v_load rfl rfl ⟨rfl, Nat.le_of_ble_eq_true rfl⟩ ?_
      refine v_callr rfl ⟨Nat.le_of_ble_eq_true rfl, Nat.le_of_ble_eq_true rfl, rfl, Nat.le_of_ble_eq_true rfl, rfl⟩ ?_
      refine R_editsS (fr := (mgF s.1.1 (mnL s.1.1 (NT (toks s.1.1)).length)).1) hC2 hB hn f2 hA (by omega) (fun M5 c5 e5 o5 => ?_)
      refine v_load rfl rfl ⟨rfl, Nat.le_of_ble_eq_true rfl⟩ ?_
      refine v_ret rfl rfl ?_
      exact k M5 c5 (z_oR_tr (oF_R (oF_tr f0.2 o2)) o5)
    · rw [if_neg cc] at k
      refine v_load rfl rfl ⟨rfl, Nat.le_of_ble_eq_true rfl⟩ ?_
      refine v_ifne rfl (fun _ => ?_) (fun h => absurd h (by omega))
      refine v_load rfl rfl ⟨rfl, Nat.le_of_ble_eq_true rfl⟩ ?_
      refine v_push rfl ?_
      refine v_ile rfl (fun h => absurd h (by omega)) (fun _ => ?_)
      refine v_push rfl ?_
      refine v_ret rfl rfl ?_
      exact k M hC z_oR_rf
end MD
