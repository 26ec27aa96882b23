/-! ACTS: unwrap -/
theorem posF_up (N : List zQ) (b : Nat) : ∀ k, b ≤ posF N b k
  | 0 => Nat.le_refl _
  | k + 1 => Nat.le_trans (posF_up N b k) (Nat.le_add_right _ _)
theorem wf_kids {ts : List (List zN)} (h : wfF ts) : ts.length ≤ ts.flatten.length :=
  wf_ind (C := fun ts => ts.length ≤ ts.flatten.length) h (Nat.le_refl _) (fun so fr up sg cs ts _ _ _ i2 => by rw [List.flatten_cons, List.length_append, mkN_len, List.length_cons]; omega)
theorem NT_kid {t : List Int} {i : Int} (hi : 0 ≤ i ∧ i < ((NT (toks t)).length : Int)) : (nd (NT (toks t)) i).2.2.1 < (nd (NT (toks t)) i).2.2.2.1 := by
  obtain ⟨cs, hw, h2, h3, -⟩ := NT_nod (tkOK_toks t) (i := i.toNat) (by omega)
  have := wf_kids hw
  rw [nd_in hi, h3, h2]
  omega
/-- children of a node -/
theorem KID {t : List Int} {i : Int} (hi : 0 ≤ i ∧ i < ((NT (toks t)).length : Int)) {k : Nat} (hk : (k : Int) < (nd (NT (toks t)) i).2.2.1) :
    i < (posF (NT (toks t)) (i.toNat + 1) k : Int) ∧ (posF (NT (toks t)) (i.toNat + 1) k : Int) < ((NT (toks t)).length : Int) ∧ (nd (NT (toks t)) (posF (NT (toks t)) (i.toNat + 1) k : Int)).2.1 = i ∧ (nd (NT (toks t)) (posF (NT (toks t)) (i.toNat + 1) k : Int)).2.2.2.2.1 = (nd (NT (toks t)) i).2.2.2.2.1 + 1 ∧ 1 ≤ (nd (NT (toks t)) (posF (NT (toks t)) (i.toNat + 1) k : Int)).2.2.2.1 ∧ (posF (NT (toks t)) (i.toNat + 1) (k + 1) : Int) = (posF (NT (toks t)) (i.toNat + 1) k : Int) + (nd (NT (toks t)) (posF (NT (toks t)) (i.toNat + 1) k : Int)).2.2.2.1 ∧ (posF (NT (toks t)) (i.toNat + 1) (k + 1) : Int) ≤ i + (nd (NT (toks t)) i).2.2.2.1 ∧ ((k : Int) + 1 = (nd (NT (toks t)) i).2.2.1 → (posF (NT (toks t)) (i.toNat + 1) (k + 1) : Int) = i + (nd (NT (toks t)) i).2.2.2.1) ∧ ((k : Int) + 1 < (nd (NT (toks t)) i).2.2.1 → nxq (NT (toks t)) (posF (NT (toks t)) (i.toNat + 1) k : Int) = (posF (NT (toks t)) (i.toNat + 1) (k + 1) : Int)) := by
  obtain ⟨cs, hw, h2, h3, h4, h5, -⟩ := NT_nod (tkOK_toks t) (i := i.toNat) (by omega)
  have hk' : k < cs.length := by rw [nd_in hi, h2] at hk; omega
  obtain ⟨a1, a2, a3, a4, -, a6, a7, a8⟩ := row_lay hw _ _ _ _ h4 k hk'
  have hp : (posF (NT (toks t)) (i.toNat + 1) k : Int) < ((NT (toks t)).length : Int) := by omega
  rw [nd_nat (show posF (NT (toks t)) (i.toNat + 1) k < (NT (toks t)).length by omega)]
  have e1 : (nd (NT (toks t)) i).2.2.2.1 = (cs.flatten.length : Int) + 1 := by rw [nd_in hi, h3]
  have e2 : (nd (NT (toks t)) i).2.2.1 = (cs.length : Int) := by rw [nd_in hi, h2]
  have e3 : (nd (NT (toks t)) i).2.2.2.2.1 = ((NT (toks t)).getD i.toNat n0).2.2.2.2.1 := by rw [nd_in hi]
  have e4 : (posF (NT (toks t)) (i.toNat + 1) (k + 1) : Int) = (posF (NT (toks t)) (i.toNat + 1) k : Int) + ((NT (toks t)).getD (posF (NT (toks t)) (i.toNat + 1) k) n0).2.2.2.1 := by
    show ((posF (NT (toks t)) (i.toNat + 1) k + ((NT (toks t)).getD (posF (NT (toks t)) (i.toNat + 1) k) n0).2.2.2.1.toNat : Nat) : Int) = _
    omega
  refine ⟨by omega, hp, by rw [a3]; omega, by rw [a4, e3], a6, e4, by rw [e1]; omega, fun z => by rw [e1]; have := a8 (by omega); omega, fun z => ?_⟩
  obtain ⟨b1, -⟩ := row_lay hw _ _ _ _ h4 (k + 1) (by omega)
  unfold nxq
  rw [nd_nat (show posF (NT (toks t)) (i.toNat + 1) k < (NT (toks t)).length by omega), a3, show ((i.toNat : Nat) : Int) = i by omega, e1, if_pos ⟨by omega, by rw [← e4]; omega⟩, e4]
section A6
variable {L d n : Nat} {M : zM} {Q : Option zV → zM → Prop} {s : zA} {t : List Int}
/-- which child -/
noncomputable def kid (t : List Int) (i k : Int) : Int := if 0 ≤ k ∧ k < (nd (NT (toks t)) i).2.2.1 then (posF (NT (toks t)) (i.toNat + 1) k.toNat : Int) else -1
theorem S_kid_loop {i k : Int} (hN : RN (NT (toks t)) M) (hl : (NT (toks t)).length ≤ 1216) (hi : 0 ≤ i ∧ i < ((NT (toks t)).length : Int)) (hk : 0 ≤ k ∧ k < (nd (NT (toks t)) i).2.2.1) (kk : Q (some (0, (posF (NT (toks t)) (i.toNat + 1) k.toNat : Int))) M) : ∀ (n j : Nat), (j : Int) + (n : Int) = k → v_wp L (d + 2) 100 22 [(2, 42), (0, i), (0, k), (0, (posF (NT (toks t)) (i.toNat + 1) j : Int)), (0, (j : Int))] [] M Q := by
  intro n
  induction n with
  | zero =>
    intro j hj
    have ej : j = k.toNat := by omega
    subst ej
    refine v_load rfl rfl ⟨rfl, Nat.le_of_ble_eq_true rfl⟩ ?_
    refine v_load rfl rfl ⟨rfl, Nat.le_of_ble_eq_true rfl⟩ ?_
    refine v_ige rfl (fun _ => ?_) (fun h => absurd h (by omega))
    refine v_load rfl rfl ⟨rfl, Nat.le_of_ble_eq_true rfl⟩ ?_
    refine v_ret rfl rfl ?_
    exact kk
  | succ n ih =>
    intro j hj
    obtain ⟨k1, k2, -, -, -, k6, k7, -⟩ := KID hi (k := j) (by omega)
    have z := NT_siz hi
    have z' := NT_kid hi
    refine v_load rfl rfl ⟨rfl, Nat.le_of_ble_eq_true rfl⟩ ?_
    refine v_load rfl rfl ⟨rfl, Nat.le_of_ble_eq_true rfl⟩ ?_
    refine v_ige rfl (fun h => absurd h (by omega)) (fun _ => ?_)
    refine v_load rfl rfl ⟨rfl, Nat.le_of_ble_eq_true rfl⟩ ?_
    refine v_load rfl rfl ⟨rfl, Nat.le_of_ble_eq_true rfl⟩ ?_
    refine v_load rfl rfl ⟨rfl, Nat.le_of_ble_eq_true rfl⟩ ?_
    refine v_callr rfl ⟨Nat.le_of_ble_eq_true rfl, Nat.le_of_ble_eq_true rfl, rfl, Nat.le_of_ble_eq_true rfl, rfl⟩ ?_
    refine S_ndSiz hN ?_
    refine v_add rfl (by omega) ?_
    refine v_store rfl ⟨rfl, Nat.le_of_ble_eq_true rfl, Nat.le_of_ble_eq_true rfl, rfl⟩ rfl ?_
    refine v_iinc rfl rfl rfl (by omega) rfl ?_
    refine v_goto rfl ?_
    rw [← k6, show (j : Int) + 1 = ((j + 1 : Nat) : Int) by omega]
    exact ih (j + 1) (by omega)
theorem n0_kids : n0.2.2.1 = 0 := rfl
theorem S_kidOf {i k : Int} (hN : RN (NT (toks t)) M) (hl : (NT (toks t)).length ≤ 1216) (kk : Q (some (0, kid t i k)) M) : v_call L (d + 2) 100 [(2, 42), (0, i), (0, k)] M Q := by
  unfold kid at kk
  refine v_in ?_
  by_cases c : 0 ≤ k ∧ k < (nd (NT (toks t)) i).2.2.1
  · rw [if_pos c] at kk
    have hi : 0 ≤ i ∧ i < ((NT (toks t)).length : Int) := by
      by_cases e : 0 ≤ i ∧ i < ((NT (toks t)).length : Int)
      · exact e
      · rw [nd_out e, n0_kids] at c; omega
    refine v_load rfl rfl ⟨rfl, Nat.le_of_ble_eq_true rfl⟩ ?_
    refine v_iflt rfl (fun h => absurd h (by omega)) (fun _ => ?_)
    refine v_load rfl rfl ⟨rfl, Nat.le_of_ble_eq_true rfl⟩ ?_
    refine v_load rfl rfl ⟨rfl, Nat.le_of_ble_eq_true rfl⟩ ?_
    refine v_load rfl rfl ⟨rfl, Nat.le_of_ble_eq_true rfl⟩ ?_
    refine v_callr rfl ⟨Nat.le_of_ble_eq_true rfl, Nat.le_of_ble_eq_true rfl, rfl, Nat.le_of_ble_eq_true rfl, rfl⟩ ?_
    refine S_ndKids hN ?_
    refine v_ilt rfl (fun _ => ?_) (fun h => absurd h (by omega))
    refine v_load rfl rfl ⟨rfl, Nat.le_of_ble_eq_true rfl⟩ ?_
    refine v_push rfl ?_
    refine v_add rfl (by omega) ?_
    refine v_store rfl ⟨rfl, Nat.le_of_ble_eq_true rfl, Nat.le_of_ble_eq_true rfl, rfl⟩ rfl ?_
    refine v_push rfl ?_
    refine v_store rfl ⟨rfl, Nat.le_of_ble_eq_true rfl, Nat.le_of_ble_eq_true rfl, rfl⟩ rfl ?_
    have := S_kid_loop (L := L) (d := d) hN hl hi c kk k.toNat 0 (by omega)
    rw [show (posF (NT (toks t)) (i.toNat + 1) 0 : Int) = i + 1 by show ((i.toNat + 1 : Nat) : Int) = _; omega] at this
    exact this
  · rw [if_neg c] at kk
    refine v_load rfl rfl ⟨rfl, Nat.le_of_ble_eq_true rfl⟩ ?_
    refine v_iflt rfl (fun c1 => ?_) (fun c1 => ?_)
    · refine v_push rfl ?_
      refine v_ret rfl rfl ?_
      first | exact kk | (exfalso; omega)
    · refine v_load rfl rfl ⟨rfl, Nat.le_of_ble_eq_true rfl⟩ ?_
      refine v_load rfl rfl ⟨rfl, Nat.le_of_ble_eq_true rfl⟩ ?_
      refine v_load rfl rfl ⟨rfl, Nat.le_of_ble_eq_true rfl⟩ ?_
      refine v_callr rfl ⟨Nat.le_of_ble_eq_true rfl, Nat.le_of_ble_eq_true rfl, rfl, Nat.le_of_ble_eq_true rfl, rfl⟩ ?_
      refine S_ndKids hN ?_
      refine v_ilt rfl (fun c2 => ?_) (fun c2 => ?_)
      · first | exact kk | (exfalso; omega)
      · refine v_push rfl ?_
        refine v_ret rfl rfl ?_
        first | exact kk | (exfalso; omega)
theorem R_child_loop {i k : Int} (hS : RSt t M) (hi : 0 ≤ i ∧ i < ((NT (toks t)).length : Int)) (hk : 0 ≤ k ∧ k < (nd (NT (toks t)) i).2.2.1) (kk : Q (some (0, (posF (NT (toks t)) (i.toNat + 1) k.toNat : Int))) M) : ∀ (n j : Nat), (j : Int) + (n : Int) = k → v_wp L d 255 7 [(2, 77), (0, i), (0, k), (0, (posF (NT (toks t)) (i.toNat + 1) j : Int)), (0, (j : Int))] [] M Q := by
  intro n
  have hl := NT_1216 hS
  induction n with
  | zero =>
    intro j hj
    have ej : j = k.toNat := by omega
    subst ej
    refine v_load rfl rfl ⟨rfl, Nat.le_of_ble_eq_true rfl⟩ ?_
    refine v_load rfl rfl ⟨rfl, Nat.le_of_ble_eq_true rfl⟩ ?_
    refine v_ige rfl (fun _ => ?_) (fun h => absurd h (by omega))
    refine v_load rfl rfl ⟨rfl, Nat.le_of_ble_eq_true rfl⟩ ?_
    refine v_ret rfl rfl ?_
    exact kk
  | succ n ih =>
    intro j hj
    obtain ⟨k1, k2, -, -, -, k6, k7, -, k9⟩ := KID hi (k := j) (by omega)
    have g := (hS.2.2.1.2.1 (posF (NT (toks t)) (i.toNat + 1) j) (by omega)).1
    rw [k9 (by omega)] at g
    have z := NT_siz hi
    have z' := NT_kid hi
    refine v_load rfl rfl ⟨rfl, Nat.le_of_ble_eq_true rfl⟩ ?_
    refine v_load rfl rfl ⟨rfl, Nat.le_of_ble_eq_true rfl⟩ ?_
    refine v_ige rfl (fun h => absurd h (by omega)) (fun _ => ?_)
    refine v_load rfl rfl ⟨rfl, Nat.le_of_ble_eq_true rfl⟩ ?_
    refine v_getp rfl rfl rfl ?_
    refine v_load rfl rfl ⟨rfl, Nat.le_of_ble_eq_true rfl⟩ ?_
    refine v_ald9 rfl rfl ⟨by omega, by show _ < (1600 : Int); omega⟩ ?_
    rw [g]
    refine v_store rfl ⟨rfl, Nat.le_of_ble_eq_true rfl, Nat.le_of_ble_eq_true rfl, rfl⟩ rfl ?_
    refine v_iinc rfl rfl rfl (by omega) rfl ?_
    refine v_goto rfl ?_
    rw [show (j : Int) + 1 = ((j + 1 : Nat) : Int) by omega]
    exact ih (j + 1) (by omega)
theorem R_childOf {i k : Int} (hS : RSt t M) (hi : 0 ≤ i ∧ i < ((NT (toks t)).length : Int)) (hk : 0 ≤ k ∧ k < (nd (NT (toks t)) i).2.2.1) (kk : Q (some (0, kid t i k)) M) : v_call L d 255 [(2, 77), (0, i), (0, k)] M Q := by
  unfold kid at kk
  rw [if_pos hk] at kk
  have hl := NT_1216 hS
  refine v_in ?_
  refine v_load rfl rfl ⟨rfl, Nat.le_of_ble_eq_true rfl⟩ ?_
  refine v_push rfl ?_
  refine v_add rfl (by omega) ?_
  refine v_store rfl ⟨rfl, Nat.le_of_ble_eq_true rfl, Nat.le_of_ble_eq_true rfl, rfl⟩ rfl ?_
  refine v_push rfl ?_
  refine v_store rfl ⟨rfl, Nat.le_of_ble_eq_true rfl, Nat.le_of_ble_eq_true rfl, rfl⟩ rfl ?_
  have := R_child_loop (L := L) (d := d) hS hi hk kk k.toNat 0 (by omega)
  rw [show (posF (NT (toks t)) (i.toNat + 1) 0 : Int) = i + 1 by show ((i.toNat + 1 : Nat) : Int) = _; omega] at this
  exact this
theorem R_lastChild {i : Int} (hS : RSt t M) (hi : 0 ≤ i ∧ i < ((NT (toks t)).length : Int)) (hk : 0 < (nd (NT (toks t)) i).2.2.1) (kk : Q (some (0, kid t i ((nd (NT (toks t)) i).2.2.1 - 1))) M) : v_call L (d + 1) 256 [(2, 77), (0, i)] M Q := by
  have hl := NT_1216 hS
  have g := (TM_nd hS hi).2.2.1
  have z := NT_siz hi
  have z' := NT_kid hi
  refine v_in ?_
  refine v_load rfl rfl ⟨rfl, Nat.le_of_ble_eq_true rfl⟩ ?_
  refine v_load rfl rfl ⟨rfl, Nat.le_of_ble_eq_true rfl⟩ ?_
  refine v_load rfl rfl ⟨rfl, Nat.le_of_ble_eq_true rfl⟩ ?_
  refine v_getp rfl rfl rfl ?_
  refine v_load rfl rfl ⟨rfl, Nat.le_of_ble_eq_true rfl⟩ ?_
  refine v_ald9 rfl rfl ⟨by omega, by show _ < (1600 : Int); omega⟩ ?_
  rw [g]
  refine v_push rfl ?_
  refine v_sub rfl (by omega) ?_
  refine v_callr rfl ⟨Nat.le_of_ble_eq_true rfl, Nat.le_of_ble_eq_true rfl, rfl, Nat.le_of_ble_eq_true rfl, rfl⟩ ?_
  refine R_childOf hS hi ⟨by omega, by omega⟩ ?_
  refine v_ret rfl rfl ?_
  exact kk
theorem kid_in {i k : Int} (hk : 0 ≤ k ∧ k < (nd (NT (toks t)) i).2.2.1) : i < kid t i k ∧ kid t i k < ((NT (toks t)).length : Int) ∧ (nd (NT (toks t)) (kid t i k)).2.1 = i := by
  have hi : 0 ≤ i ∧ i < ((NT (toks t)).length : Int) := by
    by_cases e : 0 ≤ i ∧ i < ((NT (toks t)).length : Int)
    · exact e
    · rw [nd_out e, n0_kids] at hk; omega
  have := KID hi (k := k.toNat) (by omega)
  unfold kid
  rw [if_pos hk]
  exact ⟨this.1, this.2.1, this.2.2.1⟩
/-- an ITEM takes a byte -/
theorem itm_lt {i : Int} (h : itm (nd (NT (toks t)) i).1 = true) : pF t i < pE t i := by
  obtain ⟨h1, h2, h3⟩ := itm_tk h
  have b1 := NT_bd (tkOK_toks t) (i := i.toNat) (by omega)
  rw [← nd_in (N := NT (toks t)) (i := i) ⟨by omega, by omega⟩] at b1
  unfold pF pE
  rw [if_neg (by omega), if_neg (by omega), if_neg (by omega)]
  have q1 := (tq_at (t := t) (i := (nd (NT (toks t)) i).2.2.2.2.2.1) ⟨by omega, by omega⟩).1
  have q2 := (tq_at (t := t) (i := (nd (NT (toks t)) i).2.2.2.2.2.1 + (nd (NT (toks t)) i).2.2.2.2.2.2.1 - 1) ⟨by omega, by omega⟩).1
  by_cases e : (nd (NT (toks t)) i).2.2.2.2.2.2.1 = 1
  · rw [e, show (nd (NT (toks t)) i).2.2.2.2.2.1 + 1 - 1 = (nd (NT (toks t)) i).2.2.2.2.2.1 by omega]
    exact q1.2.1
  · have := tq_ord (t := t) (i := (nd (NT (toks t)) i).2.2.2.2.2.1) (j := (nd (NT (toks t)) i).2.2.2.2.2.1 + (nd (NT (toks t)) i).2.2.2.2.2.2.1 - 1) (by omega) (by omega) (by omega)
    omega
theorem blk_kids {i : Int} (h : (nd (NT (toks t)) i).1 = 5) : 0 < (nd (NT (toks t)) i).2.2.1 := by
  have hi := itm_in (show itm (nd (NT (toks t)) i).1 = true by rw [h]; rfl)
  obtain ⟨cs, hw, h2, h3, h4, h5, h6⟩ := NT_nod (tkOK_toks t) (i := i.toNat) (by omega)
  rw [nd_in hi] at h ⊢
  rw [h2]
  rcases h6 with ⟨-, e, -⟩ | ⟨-, -, e, -⟩ | ⟨-, -, e, -⟩ | ⟨-, e, -⟩
  · rw [e] at h; exact absurd (show (0 : Int) = 5 from h) (by decide)
  · unfold lfs at e; rw [h] at e; omega
  · rw [h] at e; exact absurd e (by decide)
  · have := List.length_pos_iff.mpr e; omega
/-- a BLOCK's closing brace: none, or one byte -/
noncomputable def clo (t : List Int) (i : Int) : Int := if (nd (NT (toks t)) (kid t i ((nd (NT (toks t)) i).2.2.1 - 1))).1 = 16 then 1 else 0
noncomputable def unwrapS (s : zA) (i : Int) : zA × Int := if (nd (NT (toks s.1.1)) i).1 = 5 then (edS s (edT s.1.1 (sub s.1.1 (pF s.1.1 i + 1) (pE s.1.1 i - clo s.1.1 i)) (pF s.1.1 i) (pE s.1.1 i)) (pF s.1.1 i) (pE s.1.1 i), kpN s.1.1 (edT s.1.1 (sub s.1.1 (pF s.1.1 i + 1) (pE s.1.1 i - clo s.1.1 i)) (pF s.1.1 i) (pE s.1.1 i)) (pF s.1.1 i) (pE s.1.1 i)) else (s, -1)
theorem sub_le {a b x y : Int} (h : 0 ≤ a ∧ x ≤ a ∧ x ≤ y ∧ b ≤ y ∧ b ≤ (t.length : Int)) : ((sub t a b).length : Int) ≤ y - x := by
  by_cases c : a ≤ b
  · have := sub_len (t := t) (a := a) (b := b) ⟨h.1, c, h.2.2.2.2⟩; omega
  · rw [sub_nil (by omega)]; show (0 : Int) ≤ _; omega
theorem S_unwrap {i : Int} (hC : CS s M) (hB : BS s n) (hn : n ≤ 600) (k : ∀ M', CS (unwrapS s i).1 M' → z_oR 1 76 M M' → Q (some (0, (unwrapS s i).2)) M') : v_call L (d + 102) 128 [(2, 1), (0, i)] M Q := by
  obtain ⟨h1, -, -, -, h5, h6, -⟩ := id hC
  have hl := hB.1
  have hby := hB.2.2.1
  have hlN : (NT (toks s.1.1)).length ≤ 1216 := h6.1.2.1
  unfold unwrapS at k
  refine v_in ?_
  by_cases c : (nd (NT (toks s.1.1)) i).1 = 5
  · rw [if_pos c] at k
    have ci : itm (nd (NT (toks s.1.1)) i).1 = true := by rw [c]; rfl
    have r1 := pF_rng s.1.1 i
    have r2 := pE_rng s.1.1 i
    have r3 := itm_lt ci
    have bk := blk_kids c
    have hin := itm_in ci
    have z' := NT_kid (t := s.1.1) (itm_in ci)
    have z := NT_siz (t := s.1.1) (itm_in ci)
    have hcl : clo s.1.1 i = 0 ∨ clo s.1.1 i = 1 := by unfold clo; split <;> omega
    have hfl := sub_le (t := s.1.1) (a := pF s.1.1 i + 1) (b := pE s.1.1 i - clo s.1.1 i) (x := pF s.1.1 i) (y := pE s.1.1 i) ⟨by omega, by omega, by omega, by omega, by omega⟩
    have hel := edT_len (t := s.1.1) (fr := sub s.1.1 (pF s.1.1 i + 1) (pE s.1.1 i - clo s.1.1 i)) (a := pF s.1.1 i) (b := pE s.1.1 i) ⟨r1.1, by omega, r2.2⟩
    have hbe : z_by (edT s.1.1 (sub s.1.1 (pF s.1.1 i + 1) (pE s.1.1 i - clo s.1.1 i)) (pF s.1.1 i) (pE s.1.1 i)) := edT_by hby (z_by_sub hby)
    have fin : v_wp L (d + 102) 128 73 [(2, 1), (0, i), (0, pF s.1.1 i), (0, pE s.1.1 i), (0, kid s.1.1 i ((nd (NT (toks s.1.1)) i).2.2.1 - 1)), (0, clo s.1.1 i)] [] M Q := by
      refine v_load rfl rfl ⟨rfl, Nat.le_of_ble_eq_true rfl⟩ ?_
      refine v_getp rfl rfl rfl ?_
      refine v_callr rfl ⟨Nat.le_of_ble_eq_true rfl, Nat.le_of_ble_eq_true rfl, rfl, Nat.le_of_ble_eq_true rfl, rfl⟩ ?_
      refine S_dClear (fun M1 d1 o1 => ?_)
      have v1 : BV M1 2 s.1.1 0 := BV_oR h1 o1 (by decide)
      refine v_load rfl rfl ⟨rfl, Nat.le_of_ble_eq_true rfl⟩ ?_
      refine v_getp rfl rfl rfl ?_
      refine v_load rfl rfl ⟨rfl, Nat.le_of_ble_eq_true rfl⟩ ?_
      refine v_getp rfl rfl rfl ?_
      refine v_push rfl ?_
      refine v_load rfl rfl ⟨rfl, Nat.le_of_ble_eq_true rfl⟩ ?_
      refine v_callr rfl ⟨Nat.le_of_ble_eq_true rfl, Nat.le_of_ble_eq_true rfl, rfl, Nat.le_of_ble_eq_true rfl, rfl⟩ ?_
      refine S_dFrom d1 (Or.inl rfl) v1 (by decide) ⟨r1.1, r1.2⟩ (fun M2 d2 o2 => ?_)
      have v2 : BV M2 2 s.1.1 0 := BV_oR v1 o2 (by decide)
      refine v_load rfl rfl ⟨rfl, Nat.le_of_ble_eq_true rfl⟩ ?_
      refine v_getp rfl rfl rfl ?_
      refine v_load rfl rfl ⟨rfl, Nat.le_of_ble_eq_true rfl⟩ ?_
      refine v_getp rfl rfl rfl ?_
      refine v_load rfl rfl ⟨rfl, Nat.le_of_ble_eq_true rfl⟩ ?_
      refine v_push rfl ?_
      refine v_add rfl (by omega) ?_
      refine v_load rfl rfl ⟨rfl, Nat.le_of_ble_eq_true rfl⟩ ?_
      refine v_load rfl rfl ⟨rfl, Nat.le_of_ble_eq_true rfl⟩ ?_
      refine v_sub rfl (by omega) ?_
      refine v_callr rfl ⟨Nat.le_of_ble_eq_true rfl, Nat.le_of_ble_eq_true rfl, rfl, Nat.le_of_ble_eq_true rfl, rfl⟩ ?_
      refine S_dFrom d2 (Or.inl rfl) v2 (by omega) ⟨by omega, by omega⟩ (fun M3 d3 o3 => ?_)
      have v3 : BV M3 2 s.1.1 0 := BV_oR v2 o3 (by decide)
      refine v_load rfl rfl ⟨rfl, Nat.le_of_ble_eq_true rfl⟩ ?_
      refine v_getp rfl rfl rfl ?_
      refine v_load rfl rfl ⟨rfl, Nat.le_of_ble_eq_true rfl⟩ ?_
      refine v_getp rfl rfl rfl ?_
      refine v_load rfl rfl ⟨rfl, Nat.le_of_ble_eq_true rfl⟩ ?_
      refine v_load rfl rfl ⟨rfl, Nat.le_of_ble_eq_true rfl⟩ ?_
      refine v_getp rfl rfl rfl ?_
      refine v_callr rfl ⟨Nat.le_of_ble_eq_true rfl, Nat.le_of_ble_eq_true rfl, rfl, Nat.le_of_ble_eq_true rfl, rfl⟩ ?_
      refine S_sizeT z_B2 v3 ?_
      refine v_callr rfl ⟨Nat.le_of_ble_eq_true rfl, Nat.le_of_ble_eq_true rfl, rfl, Nat.le_of_ble_eq_true rfl, rfl⟩ ?_
      refine S_dFrom d3 (Or.inl rfl) v3 r2.1 ⟨by omega, Int.le_refl _⟩ (fun M6 d6 o6 => ?_)
      have o16 := z_oR_tr o1 (z_oR_tr o2 (z_oR_tr o3 o6))
      have d6' := DRF_ed (t := s.1.1) (fr := sub s.1.1 (pF s.1.1 i + 1) (pE s.1.1 i - clo s.1.1 i)) (a := pF s.1.1 i) (b := pE s.1.1 i) d6 (by rw [sub_0, sub_end]; simp)
      refine v_load rfl rfl ⟨rfl, Nat.le_of_ble_eq_true rfl⟩ ?_
      refine v_load rfl rfl ⟨rfl, Nat.le_of_ble_eq_true rfl⟩ ?_
      refine v_load rfl rfl ⟨rfl, Nat.le_of_ble_eq_true rfl⟩ ?_
      refine v_callr rfl ⟨Nat.le_of_ble_eq_true rfl, Nat.le_of_ble_eq_true rfl, rfl, Nat.le_of_ble_eq_true rfl, rfl⟩ ?_
      refine S_settleS (n := n) (CS_draft hC o16 d6') hB hn (DRF_fit d6' hbe (by omega)) hbe (fun M7 c7 o7 => ?_)
      refine v_ret rfl rfl ?_
      exact k M7 c7 (z_oR_tr (z_oR_w o16 (by decide) (by decide)) o7)
    have h16 : b2i (decide ((nd (NT (toks s.1.1)) (kid s.1.1 i ((nd (NT (toks s.1.1)) i).2.2.1 - 1))).1 = 16)) = clo s.1.1 i := by unfold clo b2i; simp
    by_cases e : clo s.1.1 i = 0
    · rw [e] at fin h16
      refine v_load rfl rfl ⟨rfl, Nat.le_of_ble_eq_true rfl⟩ ?_
      refine v_getp rfl rfl rfl ?_
      refine v_load rfl rfl ⟨rfl, Nat.le_of_ble_eq_true rfl⟩ ?_
      refine v_push rfl ?_
      refine v_callr rfl ⟨Nat.le_of_ble_eq_true rfl, Nat.le_of_ble_eq_true rfl, rfl, Nat.le_of_ble_eq_true rfl, rfl⟩ ?_
      refine S_ndIsOf h6.1 (by decide) ?_
      rw [b2i_t (decide_eq_true c)]
      refine v_ifne rfl (fun _ => ?_) (fun h => absurd h (by decide))
      refine v_load rfl rfl ⟨rfl, Nat.le_of_ble_eq_true rfl⟩ ?_
      refine v_getp rfl rfl rfl ?_
      refine v_load rfl rfl ⟨rfl, Nat.le_of_ble_eq_true rfl⟩ ?_
      refine v_callr rfl ⟨Nat.le_of_ble_eq_true rfl, Nat.le_of_ble_eq_true rfl, rfl, Nat.le_of_ble_eq_true rfl, rfl⟩ ?_
      refine S_firstOf h5 h6 hl ?_
      refine v_store rfl ⟨rfl, Nat.le_of_ble_eq_true rfl, Nat.le_of_ble_eq_true rfl, rfl⟩ rfl ?_
      refine v_load rfl rfl ⟨rfl, Nat.le_of_ble_eq_true rfl⟩ ?_
      refine v_getp rfl rfl rfl ?_
      refine v_load rfl rfl ⟨rfl, Nat.le_of_ble_eq_true rfl⟩ ?_
      refine v_callr rfl ⟨Nat.le_of_ble_eq_true rfl, Nat.le_of_ble_eq_true rfl, rfl, Nat.le_of_ble_eq_true rfl, rfl⟩ ?_
      refine S_endOf h1 h5 h6 hl ?_
      refine v_store rfl ⟨rfl, Nat.le_of_ble_eq_true rfl, Nat.le_of_ble_eq_true rfl, rfl⟩ rfl ?_
      refine v_load rfl rfl ⟨rfl, Nat.le_of_ble_eq_true rfl⟩ ?_
      refine v_getp rfl rfl rfl ?_
      refine v_load rfl rfl ⟨rfl, Nat.le_of_ble_eq_true rfl⟩ ?_
      refine v_load rfl rfl ⟨rfl, Nat.le_of_ble_eq_true rfl⟩ ?_
      refine v_getp rfl rfl rfl ?_
      refine v_load rfl rfl ⟨rfl, Nat.le_of_ble_eq_true rfl⟩ ?_
      refine v_callr rfl ⟨Nat.le_of_ble_eq_true rfl, Nat.le_of_ble_eq_true rfl, rfl, Nat.le_of_ble_eq_true rfl, rfl⟩ ?_
      refine S_ndKids h6.1 ?_
      refine v_push rfl ?_
      refine v_sub rfl (by omega) ?_
      refine v_callr rfl ⟨Nat.le_of_ble_eq_true rfl, Nat.le_of_ble_eq_true rfl, rfl, Nat.le_of_ble_eq_true rfl, rfl⟩ ?_
      refine S_kidOf h6.1 hlN ?_
      refine v_store rfl ⟨rfl, Nat.le_of_ble_eq_true rfl, Nat.le_of_ble_eq_true rfl, rfl⟩ rfl ?_
      refine v_load rfl rfl ⟨rfl, Nat.le_of_ble_eq_true rfl⟩ ?_
      refine v_getp rfl rfl rfl ?_
      refine v_load rfl rfl ⟨rfl, Nat.le_of_ble_eq_true rfl⟩ ?_
      refine v_push rfl ?_
      refine v_callr rfl ⟨Nat.le_of_ble_eq_true rfl, Nat.le_of_ble_eq_true rfl, rfl, Nat.le_of_ble_eq_true rfl, rfl⟩ ?_
      refine S_ndIsOf h6.1 (by decide) ?_
      rw [h16]
      refine v_ifeq rfl (fun _ => ?_) (fun h => absurd h (by decide))
      refine v_push rfl ?_
      refine v_store rfl ⟨rfl, Nat.le_of_ble_eq_true rfl, Nat.le_of_ble_eq_true rfl, rfl⟩ rfl ?_
      exact fin
    · rw [show clo s.1.1 i = 1 by omega] at fin h16
      refine v_load rfl rfl ⟨rfl, Nat.le_of_ble_eq_true rfl⟩ ?_
      refine v_getp rfl rfl rfl ?_
      refine v_load rfl rfl ⟨rfl, Nat.le_of_ble_eq_true rfl⟩ ?_
      refine v_push rfl ?_
      refine v_callr rfl ⟨Nat.le_of_ble_eq_true rfl, Nat.le_of_ble_eq_true rfl, rfl, Nat.le_of_ble_eq_true rfl, rfl⟩ ?_
      refine S_ndIsOf h6.1 (by decide) ?_
      rw [b2i_t (decide_eq_true c)]
      refine v_ifne rfl (fun _ => ?_) (fun h => absurd h (by decide))
      refine v_load rfl rfl ⟨rfl, Nat.le_of_ble_eq_true rfl⟩ ?_
      refine v_getp rfl rfl rfl ?_
      refine v_load rfl rfl ⟨rfl, Nat.le_of_ble_eq_true rfl⟩ ?_
      refine v_callr rfl ⟨Nat.le_of_ble_eq_true rfl, Nat.le_of_ble_eq_true rfl, rfl, Nat.le_of_ble_eq_true rfl, rfl⟩ ?_
      refine S_firstOf h5 h6 hl ?_
      refine v_store rfl ⟨rfl, Nat.le_of_ble_eq_true rfl, Nat.le_of_ble_eq_true rfl, rfl⟩ rfl ?_
      refine v_load rfl rfl ⟨rfl, Nat.le_of_ble_eq_true rfl⟩ ?_
      refine v_getp rfl rfl rfl ?_
      refine v_load rfl rfl ⟨rfl, Nat.le_of_ble_eq_true rfl⟩ ?_
      refine v_callr rfl ⟨Nat.le_of_ble_eq_true rfl, Nat.le_of_ble_eq_true rfl, rfl, Nat.le_of_ble_eq_true rfl, rfl⟩ ?_
      refine S_endOf h1 h5 h6 hl ?_
      refine v_store rfl ⟨rfl, Nat.le_of_ble_eq_true rfl, Nat.le_of_ble_eq_true rfl, rfl⟩ rfl ?_
      refine v_load rfl rfl ⟨rfl, Nat.le_of_ble_eq_true rfl⟩ ?_
      refine v_getp rfl rfl rfl ?_
      refine v_load rfl rfl ⟨rfl, Nat.le_of_ble_eq_true rfl⟩ ?_
      refine v_load rfl rfl ⟨rfl, Nat.le_of_ble_eq_true rfl⟩ ?_
      refine v_getp rfl rfl rfl ?_
      refine v_load rfl rfl ⟨rfl, Nat.le_of_ble_eq_true rfl⟩ ?_
      refine v_callr rfl ⟨Nat.le_of_ble_eq_true rfl, Nat.le_of_ble_eq_true rfl, rfl, Nat.le_of_ble_eq_true rfl, rfl⟩ ?_
      refine S_ndKids h6.1 ?_
      refine v_push rfl ?_
      refine v_sub rfl (by omega) ?_
      refine v_callr rfl ⟨Nat.le_of_ble_eq_true rfl, Nat.le_of_ble_eq_true rfl, rfl, Nat.le_of_ble_eq_true rfl, rfl⟩ ?_
      refine S_kidOf h6.1 hlN ?_
      refine v_store rfl ⟨rfl, Nat.le_of_ble_eq_true rfl, Nat.le_of_ble_eq_true rfl, rfl⟩ rfl ?_
      refine v_load rfl rfl ⟨rfl, Nat.le_of_ble_eq_true rfl⟩ ?_
      refine v_getp rfl rfl rfl ?_
      refine v_load rfl rfl ⟨rfl, Nat.le_of_ble_eq_true rfl⟩ ?_
      refine v_push rfl ?_
      refine v_callr rfl ⟨Nat.le_of_ble_eq_true rfl, Nat.le_of_ble_eq_true rfl, rfl, Nat.le_of_ble_eq_true rfl, rfl⟩ ?_
      refine S_ndIsOf h6.1 (by decide) ?_
      rw [h16]
      refine v_ifeq rfl (fun h => absurd h (by decide)) (fun _ => ?_)
      refine v_push rfl ?_
      refine v_goto rfl ?_
      refine v_store rfl ⟨rfl, Nat.le_of_ble_eq_true rfl, Nat.le_of_ble_eq_true rfl, rfl⟩ rfl ?_
      exact fin
  · rw [if_neg c] at k
    refine v_load rfl rfl ⟨rfl, Nat.le_of_ble_eq_true rfl⟩ ?_
    refine v_getp rfl rfl rfl ?_
    refine v_load rfl rfl ⟨rfl, Nat.le_of_ble_eq_true rfl⟩ ?_
    refine v_push rfl ?_
    refine v_callr rfl ⟨Nat.le_of_ble_eq_true rfl, Nat.le_of_ble_eq_true rfl, rfl, Nat.le_of_ble_eq_true rfl, rfl⟩ ?_
    refine S_ndIsOf h6.1 (by decide) ?_
    rw [b2i_f (by simpa using c)]
    refine v_ifne rfl (fun h => absurd h (by decide)) (fun _ => ?_)
    refine v_push rfl ?_
    refine v_ret rfl rfl ?_
    exact k M hC z_oR_rf
theorem R_unwrap {i : Int} (hC : RS s M) (hB : BS s n) (hn : n ≤ 600) (hi : z_i32 i) (k : ∀ M', RS (unwrapS s i).1 M' → z_oR 77 127 M M' → Q (some (0, (unwrapS s i).2)) M') : v_call L (d + 12) 257 [(2, 77), (0, i)] M Q := by
  have hS := hC.1
  have hl := hB.1
  have hlN := NT_1216 hS
  unfold unwrapS at k
  refine v_in ?_
  by_cases c : (nd (NT (toks s.1.1)) i).1 = 5
  · rw [if_pos c] at k
    have ci : itm (nd (NT (toks s.1.1)) i).1 = true := by rw [c]; rfl
    have hin := itm_in ci
    have r1 := pF_rng s.1.1 i
    have r2 := pE_rng s.1.1 i
    have r3 := itm_lt ci
    have bk := blk_kids c
    have hcl : clo s.1.1 i = 0 ∨ clo s.1.1 i = 1 := by unfold clo; split <;> omega
    have hfl := sub_le (t := s.1.1) (a := pF s.1.1 i + 1) (b := pE s.1.1 i - clo s.1.1 i) (x := pF s.1.1 i) (y := pE s.1.1 i) ⟨by omega, by omega, by omega, by omega, by omega⟩
    have kin := kid_in (t := s.1.1) (i := i) (k := (nd (NT (toks s.1.1)) i).2.2.1 - 1) ⟨by omega, by omega⟩
    have g := (TM_nd hS (i := kid s.1.1 i ((nd (NT (toks s.1.1)) i).2.2.1 - 1)) ⟨by omega, by omega⟩).1
    have f0 := RFr_0 (M := M)
    have hC1 := RS_oF hC f0.2
    have fin : v_wp L (d + 12) 257 42 [(2, 77), (0, i), (0, pE s.1.1 i - clo s.1.1 i)] [] M Q := by
      refine v_load rfl rfl ⟨rfl, Nat.le_of_ble_eq_true rfl⟩ ?_
      refine v_push rfl ?_
      refine v_puti rfl rfl rfl ?_
      refine v_load rfl rfl ⟨rfl, Nat.le_of_ble_eq_true rfl⟩ ?_
      refine v_load rfl rfl ⟨rfl, Nat.le_of_ble_eq_true rfl⟩ ?_
      refine v_load rfl rfl ⟨rfl, Nat.le_of_ble_eq_true rfl⟩ ?_
      refine v_callr rfl ⟨Nat.le_of_ble_eq_true rfl, Nat.le_of_ble_eq_true rfl, rfl, Nat.le_of_ble_eq_true rfl, rfl⟩ ?_
      refine R_from hC1.1 hin ?_
      refine v_push rfl ?_
      refine v_add rfl (by omega) ?_
      refine v_load rfl rfl ⟨rfl, Nat.le_of_ble_eq_true rfl⟩ ?_
      refine v_callr rfl ⟨Nat.le_of_ble_eq_true rfl, Nat.le_of_ble_eq_true rfl, rfl, Nat.le_of_ble_eq_true rfl, rfl⟩ ?_
      refine R_comeText f0.1 hC1.1.1 ⟨by omega, by omega⟩ (by show (0 : Int) + _ ≤ _; omega) (fun M2 f2 o2 => ?_)
      have hC2 := RS_oF hC1 o2
      refine v_load rfl rfl ⟨rfl, Nat.le_of_ble_eq_true rfl⟩ ?_
      refine v_load rfl rfl ⟨rfl, Nat.le_of_ble_eq_true rfl⟩ ?_
      refine v_load rfl rfl ⟨rfl, Nat.le_of_ble_eq_true rfl⟩ ?_
      refine v_callr rfl ⟨Nat.le_of_ble_eq_true rfl, Nat.le_of_ble_eq_true rfl, rfl, Nat.le_of_ble_eq_true rfl, rfl⟩ ?_
      refine R_from hC2.1 hin ?_
      refine v_load rfl rfl ⟨rfl, Nat.le_of_ble_eq_true rfl⟩ ?_
      refine v_load rfl rfl ⟨rfl, Nat.le_of_ble_eq_true rfl⟩ ?_
      refine v_callr rfl ⟨Nat.le_of_ble_eq_true rfl, Nat.le_of_ble_eq_true rfl, rfl, Nat.le_of_ble_eq_true rfl, rfl⟩ ?_
      refine R_to hC2.1 hin ?_
      refine v_callr rfl ⟨Nat.le_of_ble_eq_true rfl, Nat.le_of_ble_eq_true rfl, rfl, Nat.le_of_ble_eq_true rfl, rfl⟩ ?_
      refine R_editsS (fr := sub s.1.1 (pF s.1.1 i + 1) (pE s.1.1 i - clo s.1.1 i)) hC2 hB hn f2 ⟨r1.1, by omega, r2.2⟩ (by omega) (fun M5 c5 e5 o5 => ?_)
      refine v_load rfl rfl ⟨rfl, Nat.le_of_ble_eq_true rfl⟩ ?_
      refine v_getx rfl rfl (e5) ?_
      refine v_ret rfl rfl ?_
      exact k M5 c5 (z_oR_tr (oF_R (oF_tr f0.2 o2)) o5)
    have cl : clo s.1.1 i = if (nd (NT (toks s.1.1)) (kid s.1.1 i ((nd (NT (toks s.1.1)) i).2.2.1 - 1))).1 = 16 then 1 else 0 := rfl
    refine v_load rfl rfl ⟨rfl, Nat.le_of_ble_eq_true rfl⟩ ?_
    refine v_load rfl rfl ⟨rfl, Nat.le_of_ble_eq_true rfl⟩ ?_
    refine v_push rfl ?_
    refine v_callr rfl ⟨Nat.le_of_ble_eq_true rfl, Nat.le_of_ble_eq_true rfl, rfl, Nat.le_of_ble_eq_true rfl, rfl⟩ ?_
    refine R_isOf hS hi (by decide) ?_
    rw [b2i_t (decide_eq_true c)]
    refine v_ifne rfl (fun _ => ?_) (fun h => absurd h (by decide))
    refine v_load rfl rfl ⟨rfl, Nat.le_of_ble_eq_true rfl⟩ ?_
    refine v_getp rfl rfl rfl ?_
    refine v_load rfl rfl ⟨rfl, Nat.le_of_ble_eq_true rfl⟩ ?_
    refine v_load rfl rfl ⟨rfl, Nat.le_of_ble_eq_true rfl⟩ ?_
    refine v_callr rfl ⟨Nat.le_of_ble_eq_true rfl, Nat.le_of_ble_eq_true rfl, rfl, Nat.le_of_ble_eq_true rfl, rfl⟩ ?_
    refine R_lastChild hS hin bk ?_
    refine v_ald9 rfl rfl ⟨by omega, by show _ < (1600 : Int); omega⟩ ?_
    rw [g]
    refine v_push rfl ?_
    refine v_ine rfl (fun e => ?_) (fun e => ?_)
    · refine v_load rfl rfl ⟨rfl, Nat.le_of_ble_eq_true rfl⟩ ?_
      refine v_load rfl rfl ⟨rfl, Nat.le_of_ble_eq_true rfl⟩ ?_
      refine v_callr rfl ⟨Nat.le_of_ble_eq_true rfl, Nat.le_of_ble_eq_true rfl, rfl, Nat.le_of_ble_eq_true rfl, rfl⟩ ?_
      refine R_to hS hin ?_
      rw [if_neg e] at cl; rw [show pE s.1.1 i - clo s.1.1 i = pE s.1.1 i by omega] at fin
      refine v_store rfl ⟨rfl, Nat.le_of_ble_eq_true rfl, Nat.le_of_ble_eq_true rfl, rfl⟩ rfl ?_
      exact fin
    · refine v_load rfl rfl ⟨rfl, Nat.le_of_ble_eq_true rfl⟩ ?_
      refine v_load rfl rfl ⟨rfl, Nat.le_of_ble_eq_true rfl⟩ ?_
      refine v_callr rfl ⟨Nat.le_of_ble_eq_true rfl, Nat.le_of_ble_eq_true rfl, rfl, Nat.le_of_ble_eq_true rfl, rfl⟩ ?_
      refine R_to hS hin ?_
      rw [if_pos (by omega)] at cl; rw [cl] at fin
      refine v_push rfl ?_
      refine v_sub rfl (by omega) ?_
      refine v_goto rfl ?_
      refine v_store rfl ⟨rfl, Nat.le_of_ble_eq_true rfl, Nat.le_of_ble_eq_true rfl, rfl⟩ rfl ?_
      exact fin
  · rw [if_neg c] at k
    refine v_load rfl rfl ⟨rfl, Nat.le_of_ble_eq_true rfl⟩ ?_
    refine v_load rfl rfl ⟨rfl, Nat.le_of_ble_eq_true rfl⟩ ?_
    refine v_push rfl ?_
    refine v_callr rfl ⟨Nat.le_of_ble_eq_true rfl, Nat.le_of_ble_eq_true rfl, rfl, Nat.le_of_ble_eq_true rfl, rfl⟩ ?_
    refine R_isOf hS hi (by decide) ?_
    rw [b2i_f (by simpa using c)]
    refine v_ifne rfl (fun h => absurd h (by decide)) (fun _ => ?_)
    refine v_push rfl ?_
    refine v_ret rfl rfl ?_
    exact k M hC z_oR_rf
end A6
