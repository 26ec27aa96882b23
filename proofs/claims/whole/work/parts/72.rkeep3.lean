/-! THE REFERENCE KEEPS: method 230 -/
section RK3
variable {L d : Nat} {M : zM} {Q : Option zV → zM → Prop} {t t1 : List Int} {a b more : Int}
/-- tokens, nodes and the old ones stand while kept ones change -/
theorem RO_oKp {T : List zT} {N : List zQ} {M M' : zM} (h : RO T N M) (ho : oKp M M') : RO T N M' := by
  obtain ⟨h1, h2, h3, h4, h5⟩ := h
  refine ⟨by rw [ho 77 59 (by decide) (by decide) (by decide) (by decide)]; exact h1, fun i hi => ?_, by rw [ho 77 60 (by decide) (by decide) (by decide) (by decide)]; exact h3, fun i hi => ?_, fun s s0 s1 => by rw [ho 113 s (by decide) (by decide) (by decide) (by omega)]; exact h5 s s0 s1⟩
  · rw [ho 116 _ (by decide) (by decide) (by decide) (by omega), ho 117 _ (by decide) (by decide) (by decide) (by omega), ho 118 _ (by decide) (by decide) (by decide) (by omega), ho 119 _ (by decide) (by decide) (by decide) (by omega)]
    exact h2 i hi
  · rw [ho 120 _ (by decide) (by decide) (by decide) (by omega), ho 121 _ (by decide) (by decide) (by decide) (by omega), ho 122 _ (by decide) (by decide) (by decide) (by omega)]
    exact h4 i hi
theorem RSt_oKp {t : List Int} {M M' : zM} (h : RSt t M) (ho : oKp M M') : RSt t M' := RSt_fr h (fun j hj => ho 77 j (by decide) (by decide) (by decide) (by omega)) (fun b j hb => ho b j (by omega) (by omega) (by omega) (by omega))
theorem R_kp1 (M0 : zM) (hS : RSt t1 M0) (hO : RO (toks t) (NT (toks t)) M0) (hl0 : t.length ≤ 300) (hab : a ≤ b ∧ a - b ≤ more ∧ -1000 ≤ more ∧ more ≤ 1000) (k : ∀ M', (∀ i : Nat, i < (toks t1).length → M' 123 (i : Int) = og (toks t) (toks t1) a b more i) → M' 77 61 = cI (fun i => decide (og (toks t) (toks t1) a b more i ≠ -1)) (toks t1).length → (∀ b j, b ≠ 123 → (b = 77 → j ≠ 61) → M' b j = M0 b j) → v_wp L (d + 2) 230 66 [(2, 77), (0, a), (0, b), (0, more), (0, ((toks t1).length : Int))] [] M' Q) : ∀ (n j : Nat) (Mc : zM), n = (toks t1).length - j → j ≤ (toks t1).length → (∀ i : Nat, i < j → Mc 123 (i : Int) = og (toks t) (toks t1) a b more i) → Mc 77 61 = cI (fun i => decide (og (toks t) (toks t1) a b more i ≠ -1)) j → (∀ b j, b ≠ 123 → (b = 77 → j ≠ 61) → Mc b j = M0 b j) → v_wp L (d + 2) 230 7 [(2, 77), (0, a), (0, b), (0, more), (0, (j : Int))] [] Mc Q := by
  intro n
  have h10 := hS.2.1.1
  have hl := hS.2.1.2.1
  induction n with
  | zero =>
    intro j Mc hn hj hz h61 ho
    have ej : j = (toks t1).length := by omega
    subst ej
    have p : Mc 77 10 = ((toks t1).length : Int) := (ho 77 10 (by decide) (by decide)).trans h10
    refine v_load rfl rfl ⟨rfl, Nat.le_of_ble_eq_true rfl⟩ ?_
    refine v_load rfl rfl ⟨rfl, Nat.le_of_ble_eq_true rfl⟩ ?_
    refine v_getx rfl rfl (p) ?_
    refine v_ige rfl (fun _ => ?_) (fun h => absurd h (by omega))
    exact k Mc hz h61 ho
  | succ n ih =>
    intro j Mc hn hj hz h61 ho
    have hjl : j < (toks t1).length := by omega
    have p : Mc 77 10 = ((toks t1).length : Int) := (ho 77 10 (by decide) (by decide)).trans h10
    have hok : oKp M0 Mc := fun b j h1 h2 h3 h4 => ho b j h2 (fun e => (h4 e).1)
    have hSc := RSt_oKp hS hok
    have hOc := RO_oKp hO hok
    have hck := cI_nn (fun i => decide (og (toks t) (toks t1) a b more i ≠ -1)) j
    have fin : ∀ v : Int, v = cI (fun i => decide (og (toks t) (toks t1) a b more i ≠ -1)) (j + 1) → v_wp L (d + 2) 230 57 [(2, 77), (0, a), (0, b), (0, more), (0, (j : Int))] [(0, v), (2, 77)] (z_upd Mc 123 (j : Int) (og (toks t) (toks t1) a b more j)) Q := by
      intro v hv
      refine v_puti rfl rfl rfl ?_
      refine v_iinc rfl rfl rfl (by omega) rfl ?_
      refine v_goto rfl ?_
      refine ih (j + 1) _ (by omega) (by omega) (fun i hi => ?_) (by rw [u_eq]; exact hv) (fun c i c1 c2 => ?_)
      · rw [u_n1 (by decide)]
        by_cases e : i = j
        · subst e; rw [u_eq]
        · rw [u_n2 (by omega)]; exact hz i (by omega)
      · have h3 : ¬ (c = 77 ∧ i = 61) := fun z => c2 z.1 z.2
        simp only [z_upd]
        rw [if_neg h3, if_neg (by omega)]
        exact ho c i c1 c2
    have es : cI (fun i => decide (og (toks t) (toks t1) a b more i ≠ -1)) (j + 1) = cI (fun i => decide (og (toks t) (toks t1) a b more i ≠ -1)) j + (if decide (og (toks t) (toks t1) a b more j ≠ -1) = true then 1 else 0) := rfl
    by_cases e : og (toks t) (toks t1) a b more j = -1
    · rw [if_neg (by simpa using e), Int.add_zero] at es
      refine v_load rfl rfl ⟨rfl, Nat.le_of_ble_eq_true rfl⟩ ?_
      refine v_load rfl rfl ⟨rfl, Nat.le_of_ble_eq_true rfl⟩ ?_
      refine v_getx rfl rfl (p) ?_
      refine v_ige rfl (fun h => absurd h (by omega)) (fun _ => ?_)
      refine v_load rfl rfl ⟨rfl, Nat.le_of_ble_eq_true rfl⟩ ?_
      refine v_getp rfl rfl rfl ?_
      refine v_load rfl rfl ⟨rfl, Nat.le_of_ble_eq_true rfl⟩ ?_
      refine v_load rfl rfl ⟨rfl, Nat.le_of_ble_eq_true rfl⟩ ?_
      refine v_load rfl rfl ⟨rfl, Nat.le_of_ble_eq_true rfl⟩ ?_
      refine v_load rfl rfl ⟨rfl, Nat.le_of_ble_eq_true rfl⟩ ?_
      refine v_load rfl rfl ⟨rfl, Nat.le_of_ble_eq_true rfl⟩ ?_
      refine v_load rfl rfl ⟨rfl, Nat.le_of_ble_eq_true rfl⟩ ?_
      refine v_callr rfl ⟨Nat.le_of_ble_eq_true rfl, Nat.le_of_ble_eq_true rfl, rfl, Nat.le_of_ble_eq_true rfl, rfl⟩ ?_
      refine R_wasOf hSc.2.1 hOc hl0 hjl hab ?_
      refine v_ast9 rfl rfl (by decide) ⟨by omega, by show _ < (300 : Int); omega⟩ ?_
      refine v_load rfl rfl ⟨rfl, Nat.le_of_ble_eq_true rfl⟩ ?_
      refine v_load rfl rfl ⟨rfl, Nat.le_of_ble_eq_true rfl⟩ ?_
      refine v_getp rfl rfl rfl ?_
      refine v_load rfl rfl ⟨rfl, Nat.le_of_ble_eq_true rfl⟩ ?_
      refine v_ald9 rfl rfl ⟨by omega, by show _ < (300 : Int); omega⟩ ?_
      rw [u_eq]
      refine v_push rfl ?_
      refine v_ine rfl (fun h => absurd h (by omega)) (fun _ => ?_)
      refine v_load rfl rfl ⟨rfl, Nat.le_of_ble_eq_true rfl⟩ ?_
      refine v_getx rfl rfl (show _ = cI (fun i => decide (og (toks t) (toks t1) a b more i ≠ -1)) j by rw [u_n1 (by decide)]; exact h61) ?_
      refine v_goto rfl ?_
      exact fin _ es.symm
    · rw [if_pos (by simpa using e)] at es
      refine v_load rfl rfl ⟨rfl, Nat.le_of_ble_eq_true rfl⟩ ?_
      refine v_load rfl rfl ⟨rfl, Nat.le_of_ble_eq_true rfl⟩ ?_
      refine v_getx rfl rfl (p) ?_
      refine v_ige rfl (fun h => absurd h (by omega)) (fun _ => ?_)
      refine v_load rfl rfl ⟨rfl, Nat.le_of_ble_eq_true rfl⟩ ?_
      refine v_getp rfl rfl rfl ?_
      refine v_load rfl rfl ⟨rfl, Nat.le_of_ble_eq_true rfl⟩ ?_
      refine v_load rfl rfl ⟨rfl, Nat.le_of_ble_eq_true rfl⟩ ?_
      refine v_load rfl rfl ⟨rfl, Nat.le_of_ble_eq_true rfl⟩ ?_
      refine v_load rfl rfl ⟨rfl, Nat.le_of_ble_eq_true rfl⟩ ?_
      refine v_load rfl rfl ⟨rfl, Nat.le_of_ble_eq_true rfl⟩ ?_
      refine v_load rfl rfl ⟨rfl, Nat.le_of_ble_eq_true rfl⟩ ?_
      refine v_callr rfl ⟨Nat.le_of_ble_eq_true rfl, Nat.le_of_ble_eq_true rfl, rfl, Nat.le_of_ble_eq_true rfl, rfl⟩ ?_
      refine R_wasOf hSc.2.1 hOc hl0 hjl hab ?_
      refine v_ast9 rfl rfl (by decide) ⟨by omega, by show _ < (300 : Int); omega⟩ ?_
      refine v_load rfl rfl ⟨rfl, Nat.le_of_ble_eq_true rfl⟩ ?_
      refine v_load rfl rfl ⟨rfl, Nat.le_of_ble_eq_true rfl⟩ ?_
      refine v_getp rfl rfl rfl ?_
      refine v_load rfl rfl ⟨rfl, Nat.le_of_ble_eq_true rfl⟩ ?_
      refine v_ald9 rfl rfl ⟨by omega, by show _ < (300 : Int); omega⟩ ?_
      rw [u_eq]
      refine v_push rfl ?_
      refine v_ine rfl (fun _ => ?_) (fun h => absurd h (by omega))
      refine v_load rfl rfl ⟨rfl, Nat.le_of_ble_eq_true rfl⟩ ?_
      refine v_getx rfl rfl (show _ = cI (fun i => decide (og (toks t) (toks t1) a b more i ≠ -1)) j by rw [u_n1 (by decide)]; exact h61) ?_
      refine v_push rfl ?_
      refine v_add rfl (by omega) ?_
      exact fin _ es.symm
theorem R_kp2 {O : Nat → Int} (M0 : zM) (htl : t.length ≤ 300) (hS : RSt t1 M0) (hO : RO (toks t) (NT (toks t)) M0) (hOr : ∀ i, i < (toks t1).length → -1 ≤ O i ∧ O i ≤ 300) (h123 : ∀ i : Nat, i < (toks t1).length → M0 123 (i : Int) = O i)
    (k : ∀ M', (∀ i : Nat, i < (NT (toks t1)).length → M' 124 (i : Int) = b2i (kpB O (NT (toks t)) (NT (toks t1)) i)) → (∀ s, 0 ≤ s → s < 18 → M' 114 s = lsS O (NT (toks t)) (NT (toks t1)) s (NT (toks t1)).length) → M' 77 62 = cI (kpB O (NT (toks t)) (NT (toks t1))) (NT (toks t1)).length → (∀ b j, b ≠ 114 → b ≠ 124 → (b = 77 → j ≠ 62) → M' b j = M0 b j) → Q none M') : ∀ (n j : Nat) (Mc : zM), n = (NT (toks t1)).length - j → j ≤ (NT (toks t1)).length → 1 ≤ j → (∀ i : Nat, i < j → Mc 124 (i : Int) = b2i (kpB O (NT (toks t)) (NT (toks t1)) i)) → (∀ i : Nat, j ≤ i → i < (NT (toks t1)).length → Mc 124 (i : Int) = 0) → (∀ s, 0 ≤ s → s < 18 → Mc 114 s = lsS O (NT (toks t)) (NT (toks t1)) s j) → Mc 77 62 = cI (kpB O (NT (toks t)) (NT (toks t1))) j → (∀ b j, b ≠ 114 → b ≠ 124 → (b = 77 → j ≠ 62) → Mc b j = M0 b j) → v_wp L (d + 2) 230 69 [(2, 77), (0, a), (0, b), (0, more), (0, (j : Int))] [] Mc Q := by
  intro n
  have hT0 := tkOK_toks t
  have hT1 := tkOK_toks t1
  obtain ⟨h44, hlN⟩ := TM_len hS.2.2.1
  have hl := hS.2.1.2.1
  have hl0 : (NT (toks t)).length ≤ 1216 := by
    have h1 := (NT_len hT0).2
    have h2 := toks_len t
    omega
  induction n with
  | zero =>
    intro j Mc hn hj hj1 h124 h124b h114 h62 ho
    have ej : j = (NT (toks t1)).length := by omega
    subst ej
    have p : Mc 77 44 = ((NT (toks t1)).length : Int) := (ho 77 44 (by decide) (by decide) (by decide)).trans h44
    refine v_load rfl rfl ⟨rfl, Nat.le_of_ble_eq_true rfl⟩ ?_
    refine v_load rfl rfl ⟨rfl, Nat.le_of_ble_eq_true rfl⟩ ?_
    refine v_getx rfl rfl (p) ?_
    refine v_ige rfl (fun _ => ?_) (fun h => absurd h (by omega))
    refine v_ret rfl rfl ?_
    exact k Mc h124 h114 h62 ho
  | succ n ih =>
    intro j Mc hn hj hj1 h124 h124b h114 h62 ho
    have hjl : j < (NT (toks t1)).length := by omega
    have p : Mc 77 44 = ((NT (toks t1)).length : Int) := (ho 77 44 (by decide) (by decide) (by decide)).trans h44
    have hok : oKp M0 Mc := fun b j h1 h2 h3 h4 => ho b j h1 h3 (fun e => (h4 e).2)
    have hSc := RSt_oKp hS hok
    have hOc := RO_oKp hO hok
    have hTc := hSc.2.2.1
    have h123c : ∀ i : Nat, i < (toks t1).length → Mc 123 (i : Int) = O i := fun i hi => by rw [ho 123 _ (by decide) (by decide) (by omega)]; exact h123 i hi
    obtain ⟨g1, -, -, -, -, g6, g7, -⟩ := TM_at hTc hjl
    have hbd := NT_bd hT1 hjl
    have hso := NT_sort hT1 hjl
    have hso1 := hso.2.2 (by omega)
    have hkp : kpB O (NT (toks t)) (NT (toks t1)) j = true ↔ kpP O (NT (toks t)) (NT (toks t1)) j := kpB_iff
    have hck := cI_nn (kpB O (NT (toks t)) (NT (toks t1))) j
    have h00 : 0 < (NT (toks t)).length → ((NT (toks t)).getD 0 n0).1 = 0 := fun _ => by rw [NT_eq]; rfl
    -- not kept
    have no : ¬ kpP O (NT (toks t)) (NT (toks t1)) j → v_wp L (d + 2) 230 180 [(2, 77), (0, a), (0, b), (0, more), (0, (j : Int))] [] Mc Q := by
      intro hk
      have hf := kpB_no hk
      refine v_iinc rfl rfl rfl (by omega) rfl ?_
      refine v_goto rfl ?_
      refine ih (j + 1) Mc (by omega) (by omega) (by omega) (fun i hi => ?_) (fun i i1 i2 => h124b i (by omega) i2) (fun s s0 s1 => ?_) ?_ ho
      · by_cases e : i = j
        · subst e; rw [h124b i (Nat.le_refl _) hjl, hf]; rfl
        · exact h124 i (by omega)
      · rw [h114 s s0 s1]
        show mnS _ s _ - cI _ j = mnS _ s _ - (cI _ j + (if (kpB O (NT (toks t)) (NT (toks t1)) j && decide (((NT (toks t1)).getD j n0).1 = s)) = true then 1 else 0))
        rw [hf]
        simp
      · rw [h62]
        show _ = cI _ j + (if kpB O (NT (toks t)) (NT (toks t1)) j = true then 1 else 0)
        rw [hf]
        simp
    -- kept
    have yes : kpP O (NT (toks t)) (NT (toks t1)) j → v_wp L (d + 2) 230 136 [(2, 77), (0, a), (0, b), (0, more), (0, (j : Int))] [] Mc Q := by
      intro hk
      have hf := kpB_iff.mpr hk
      have hz1 := h114 ((NT (toks t1)).getD j n0).1 hso.1 (by omega)
      have hcn : 0 ≤ mnS (NT (toks t)) ((NT (toks t1)).getD j n0).1 (NT (toks t)).length ∧ mnS (NT (toks t)) ((NT (toks t1)).getD j n0).1 (NT (toks t)).length ≤ ((NT (toks t)).length : Int) := cI_nn _ _
      have hcm := cI_nn (fun i => kpB O (NT (toks t)) (NT (toks t1)) i && decide (((NT (toks t1)).getD i n0).1 = ((NT (toks t1)).getD j n0).1)) j
      have hls : lsS O (NT (toks t)) (NT (toks t1)) ((NT (toks t1)).getD j n0).1 j = mnS (NT (toks t)) ((NT (toks t1)).getD j n0).1 (NT (toks t)).length - cI (fun i => kpB O (NT (toks t)) (NT (toks t1)) i && decide (((NT (toks t1)).getD i n0).1 = ((NT (toks t1)).getD j n0).1)) j := rfl
      refine v_load rfl rfl ⟨rfl, Nat.le_of_ble_eq_true rfl⟩ ?_
      refine v_getp rfl rfl rfl ?_
      refine v_load rfl rfl ⟨rfl, Nat.le_of_ble_eq_true rfl⟩ ?_
      refine v_push rfl ?_
      refine v_ast11 rfl rfl (by decide) ⟨by omega, by show _ < (1600 : Int); omega⟩ (by first | exact Or.inl rfl | exact Or.inr rfl | omega) ?_
      refine v_load rfl rfl ⟨rfl, Nat.le_of_ble_eq_true rfl⟩ ?_
      refine v_load rfl rfl ⟨rfl, Nat.le_of_ble_eq_true rfl⟩ ?_
      refine v_getx rfl rfl (show _ = cI (kpB O (NT (toks t)) (NT (toks t1))) j by rw [u_n1 (by decide)]; exact h62) ?_
      refine v_push rfl ?_
      refine v_add rfl (by omega) ?_
      refine v_puti rfl rfl rfl ?_
      refine v_load rfl rfl ⟨rfl, Nat.le_of_ble_eq_true rfl⟩ ?_
      refine v_getp rfl rfl rfl ?_
      refine v_load rfl rfl ⟨rfl, Nat.le_of_ble_eq_true rfl⟩ ?_
      refine v_getp rfl rfl rfl ?_
      refine v_load rfl rfl ⟨rfl, Nat.le_of_ble_eq_true rfl⟩ ?_
      refine v_ald9 rfl rfl ⟨by omega, by show _ < (1600 : Int); omega⟩ ?_
      simp (disch := decide) only [u_n1]; rw [g1]
      refine v_load rfl rfl ⟨rfl, Nat.le_of_ble_eq_true rfl⟩ ?_
      refine v_getp rfl rfl rfl ?_
      refine v_load rfl rfl ⟨rfl, Nat.le_of_ble_eq_true rfl⟩ ?_
      refine v_getp rfl rfl rfl ?_
      refine v_load rfl rfl ⟨rfl, Nat.le_of_ble_eq_true rfl⟩ ?_
      refine v_ald9 rfl rfl ⟨by omega, by show _ < (1600 : Int); omega⟩ ?_
      simp (disch := decide) only [u_n1]; rw [g1]
      refine v_ald9 rfl rfl ⟨by omega, by show _ < (18 : Int); omega⟩ ?_
      simp (disch := decide) only [u_n1]; rw [hz1]
      refine v_push rfl ?_
      refine v_sub rfl (by omega) ?_
      refine v_ast9 rfl rfl (by decide) ⟨by omega, by show _ < (18 : Int); omega⟩ ?_
      refine v_iinc rfl rfl rfl (by omega) rfl ?_
      refine v_goto rfl ?_
      refine ih (j + 1) _ (by omega) (by omega) (by omega) (fun i hi => ?_) (fun i i1 i2 => ?_) (fun s s0 s1 => ?_) ?_ (fun c i c1 c2 c3 => ?_)
      · rw [u_n1 (by decide), u_n1 (by decide)]
        by_cases e : i = j
        · subst e; rw [u_eq, hf]; rfl
        · rw [u_n2 (by omega)]; exact h124 i (by omega)
      · rw [u_n1 (by decide), u_n1 (by decide), u_n2 (by omega)]; exact h124b i (by omega) i2
      · show _ = mnS _ s _ - (cI _ j + (if (kpB O (NT (toks t)) (NT (toks t1)) j && decide (((NT (toks t1)).getD j n0).1 = s)) = true then 1 else 0))
        rw [hf]
        by_cases e : ((NT (toks t1)).getD j n0).1 = s
        · rw [if_pos (by simpa using e), ← e, u_eq, hls]; omega
        · rw [if_neg (by simpa using e), u_n2 (fun z => e z.symm), u_n1 (by decide), u_n1 (by decide), h114 s s0 s1]
          show _ = mnS _ s _ - (cI _ j + 0)
          rw [Int.add_zero]
          rfl
      · rw [u_n1 (by decide), u_eq]
        show _ = cI _ j + (if kpB O (NT (toks t)) (NT (toks t1)) j = true then 1 else 0)
        rw [hf]
        simp
      · have h3 : ¬ (c = 77 ∧ i = 62) := fun z => c3 z.1 z.2
        rw [u_n1 c1]
        simp only [z_upd]
        rw [if_neg h3, if_neg (by omega)]
        exact ho c i c1 c2 c3
    by_cases ht : ((NT (toks t1)).getD j n0).2.2.2.2.2.2.1 = 0
    · refine v_load rfl rfl ⟨rfl, Nat.le_of_ble_eq_true rfl⟩ ?_
      refine v_load rfl rfl ⟨rfl, Nat.le_of_ble_eq_true rfl⟩ ?_
      refine v_getx rfl rfl (p) ?_
      refine v_ige rfl (fun h => absurd h (by omega)) (fun _ => ?_)
      refine v_load rfl rfl ⟨rfl, Nat.le_of_ble_eq_true rfl⟩ ?_
      refine v_getp rfl rfl rfl ?_
      refine v_load rfl rfl ⟨rfl, Nat.le_of_ble_eq_true rfl⟩ ?_
      refine v_ald9 rfl rfl ⟨by omega, by show _ < (1600 : Int); omega⟩ ?_
      refine v_ifeq rfl (fun _ => ?_) (fun h => absurd h (by omega))
      exact no (fun z => by have := z.2.1; omega)
    rw [if_pos (by omega)] at g6
    refine v_load rfl rfl ⟨rfl, Nat.le_of_ble_eq_true rfl⟩ ?_
    refine v_load rfl rfl ⟨rfl, Nat.le_of_ble_eq_true rfl⟩ ?_
    refine v_getx rfl rfl (p) ?_
    refine v_ige rfl (fun h => absurd h (by omega)) (fun _ => ?_)
    refine v_load rfl rfl ⟨rfl, Nat.le_of_ble_eq_true rfl⟩ ?_
    refine v_getp rfl rfl rfl ?_
    refine v_load rfl rfl ⟨rfl, Nat.le_of_ble_eq_true rfl⟩ ?_
    refine v_ald9 rfl rfl ⟨by omega, by show _ < (1600 : Int); omega⟩ ?_
    refine v_ifeq rfl (fun h => absurd h (by omega)) (fun _ => ?_)
    refine v_load rfl rfl ⟨rfl, Nat.le_of_ble_eq_true rfl⟩ ?_
    refine v_load rfl rfl ⟨rfl, Nat.le_of_ble_eq_true rfl⟩ ?_
    refine v_callr rfl ⟨Nat.le_of_ble_eq_true rfl, Nat.le_of_ble_eq_true rfl, rfl, Nat.le_of_ble_eq_true rfl, rfl⟩ ?_
    refine R_wereAll hTc hjl hl h123c hOr ⟨hbd.1, by omega, hbd.2.2⟩ (fun hs => ?_) (fun hs => ?_)
    · have m2 := h123c ((NT (toks t1)).getD j n0).2.2.2.2.2.1.toNat (by omega)
      rw [show ((((NT (toks t1)).getD j n0).2.2.2.2.2.1.toNat : Nat) : Int) = ((NT (toks t1)).getD j n0).2.2.2.2.2.1 by omega] at m2
      refine v_ifne rfl (fun _ => ?_) (fun h => absurd h (by decide))
      refine v_load rfl rfl ⟨rfl, Nat.le_of_ble_eq_true rfl⟩ ?_
      refine v_load rfl rfl ⟨rfl, Nat.le_of_ble_eq_true rfl⟩ ?_
      refine v_getp rfl rfl rfl ?_
      refine v_load rfl rfl ⟨rfl, Nat.le_of_ble_eq_true rfl⟩ ?_
      refine v_ald9 rfl rfl ⟨by omega, by show _ < (1600 : Int); omega⟩ ?_
      rw [g1]
      refine v_load rfl rfl ⟨rfl, Nat.le_of_ble_eq_true rfl⟩ ?_
      refine v_getp rfl rfl rfl ?_
      refine v_load rfl rfl ⟨rfl, Nat.le_of_ble_eq_true rfl⟩ ?_
      refine v_getp rfl rfl rfl ?_
      refine v_load rfl rfl ⟨rfl, Nat.le_of_ble_eq_true rfl⟩ ?_
      refine v_ald9 rfl rfl ⟨by omega, by show _ < (1600 : Int); omega⟩ ?_
      rw [g6]
      refine v_ald9 rfl rfl ⟨by omega, by show _ < (300 : Int); omega⟩ ?_
      rw [m2]
      refine v_load rfl rfl ⟨rfl, Nat.le_of_ble_eq_true rfl⟩ ?_
      refine v_getp rfl rfl rfl ?_
      refine v_load rfl rfl ⟨rfl, Nat.le_of_ble_eq_true rfl⟩ ?_
      refine v_ald9 rfl rfl ⟨by omega, by show _ < (1600 : Int); omega⟩ ?_
      rw [g7]
      refine v_callr rfl ⟨Nat.le_of_ble_eq_true rfl, Nat.le_of_ble_eq_true rfl, rfl, Nat.le_of_ble_eq_true rfl, rfl⟩ ?_
      refine R_wasThere hOc hl0 hso1 h00 (by omega) (fun hex => ?_) (fun hex => ?_)
      · refine v_ifne rfl (fun _ => ?_) (fun h => absurd h (by decide))
        exact yes ⟨by omega, by omega, hs, hex⟩
      · refine v_ifne rfl (fun h => absurd h (by decide)) (fun _ => ?_)
        exact v_goto rfl (no (fun z => hex z.2.2.2))
    · refine v_ifne rfl (fun h => absurd h (by decide)) (fun _ => ?_)
      exact v_goto rfl (no (fun z => hs z.2.2.1))
theorem R_keeps (hS : RSt t1 M) (hO : RO (toks t) (NT (toks t)) M) (hl0 : t.length ≤ 300) (hab : a ≤ b ∧ a - b ≤ more ∧ -1000 ≤ more ∧ more ≤ 1000) (k : ∀ M', KPR (og (toks t) (toks t1) a b more) (kpB (og (toks t) (toks t1) a b more) (NT (toks t)) (NT (toks t1))) (fun s => lsS (og (toks t) (toks t1) a b more) (NT (toks t)) (NT (toks t1)) s (NT (toks t1)).length) (toks t1).length (NT (toks t1)).length M' → oKp M M' → Q none M') : v_call L (d + 3) 230 [(2, 77), (0, a), (0, b), (0, more)] M Q := by
  obtain ⟨h44, hlN⟩ := TM_len hS.2.2.1
  have hpos : 1 ≤ (NT (toks t1)).length := by rw [NT_eq]; simp
  refine v_in ?_
  refine v_load rfl rfl ⟨rfl, Nat.le_of_ble_eq_true rfl⟩ ?_
  refine v_callr rfl ⟨Nat.le_of_ble_eq_true rfl, Nat.le_of_ble_eq_true rfl, rfl, Nat.le_of_ble_eq_true rfl, rfl⟩ ?_
  refine R_forgets hS.2.1.1 hS.2.1.2.1 h44 hlN (fun M1 k1 o1 => ?_)
  refine v_push rfl ?_
  refine v_store rfl ⟨rfl, Nat.le_of_ble_eq_true rfl, Nat.le_of_ble_eq_true rfl, rfl⟩ rfl ?_
  refine R_kp1 M1 (RSt_oKp hS o1) (RO_oKp hO o1) hl0 hab (fun M2 a1 a2 a3 => ?_) _ 0 M1 rfl (Nat.zero_le _) (fun i hi => absurd hi (Nat.not_lt_zero _)) ?_ (fun _ _ _ _ => rfl)
  · have o2 : oKp M M2 := fun b j h1 h2 h3 h4 => by rw [a3 b j h2 (fun e => (h4 e).1), o1 b j h1 h2 h3 h4]
    have hkp0 : kpB (og (toks t) (toks t1) a b more) (NT (toks t)) (NT (toks t1)) 0 = false := kpB_no (fun z => absurd z.1 (by omega))
    refine v_push rfl ?_
    refine v_store rfl ⟨rfl, Nat.le_of_ble_eq_true rfl, Nat.le_of_ble_eq_true rfl, rfl⟩ rfl ?_
    refine R_kp2 (O := og (toks t) (toks t1) a b more) M2 hl0 (RSt_oKp hS o2) (RO_oKp hO o2) (fun i _ => ?_) a1 (fun M3 c1 c2 c3 c4 => ?_) _ 1 M2 rfl hpos (Nat.le_refl _) (fun i hi => ?_) (fun i i1 i2 => ?_) (fun s s0 s1 => ?_) ?_ (fun _ _ _ _ _ => rfl)
    · have := toks_len t
      rcases og_rng (toks t) (toks t1) a b more i with e | e <;> omega
    · refine k M3 ⟨fun i hi => ?_, c1, c2, ?_, c3⟩ (fun b j h1 h2 h3 h4 => ?_)
      · rw [c4 123 _ (by decide) (by decide) (by omega)]; exact a1 i hi
      · rw [c4 77 61 (by decide) (by decide) (by decide)]; exact a2
      · rw [c4 b j h1 h3 (fun e => (h4 e).2), o2 b j h1 h2 h3 h4]
    · rw [show i = 0 by omega, a3 124 _ (by decide) (by omega), hkp0]
      exact k1.2.1 0 (by omega)
    · rw [a3 124 _ (by decide) (by omega)]
      exact k1.2.1 i i2
    · rw [a3 114 s (by decide) (by omega), k1.2.2.1 s s0 s1]
      show M 113 s = mnS (NT (toks t)) s (NT (toks t)).length - (0 + (if (kpB _ (NT (toks t)) (NT (toks t1)) 0 && _) = true then 1 else 0))
      rw [hkp0, hO.2.2.2.2 s s0 s1]
      simp
    · rw [a3 77 62 (by decide) (by decide), k1.2.2.2.2, cI_none (fun _ => rfl)]
      show _ = 0 + (if kpB _ (NT (toks t)) (NT (toks t1)) 0 = true then 1 else 0)
      rw [hkp0]
      simp
  · rw [k1.2.2.2.1]
    exact cI_none (f := fun i => decide (oNo i ≠ -1)) (fun _ => rfl) _
end RK3
