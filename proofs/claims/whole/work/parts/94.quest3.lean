/-! QUESTIONS: node, child, find -/
section Q3
variable {L d n : Nat} {M : zM} {Q : Option zV → zM → Prop} {s : zA} {t : List Int}
def lck (x : Int) : Int := if x = -1 then -2 else x
theorem S_orLacking {x : Int} (k : Q (some (0, lck x)) M) : v_call L d 146 [(0, x)] M Q := by
  unfold lck at k
  refine v_in ?_
  refine v_load rfl rfl ⟨rfl, Nat.le_of_ble_eq_true rfl⟩ ?_
  refine v_push rfl ?_
  refine v_ine rfl (fun c1 => ?_) (fun c1 => ?_)
  · refine v_load rfl rfl ⟨rfl, Nat.le_of_ble_eq_true rfl⟩ ?_
    refine v_ret rfl rfl ?_
    exact qeq k (by split <;> omega)
  · refine v_push rfl ?_
    refine v_goto rfl ?_
    refine v_ret rfl rfl ?_
    exact qeq k (by split <;> omega)
theorem R_orNo {x : Int} (k : Q (some (0, lck x)) M) : v_call L d 268 [(0, x)] M Q := by
  unfold lck at k
  refine v_in ?_
  refine v_load rfl rfl ⟨rfl, Nat.le_of_ble_eq_true rfl⟩ ?_
  refine v_push rfl ?_
  refine v_ine rfl (fun c2 => ?_) (fun c2 => ?_)
  · refine v_load rfl rfl ⟨rfl, Nat.le_of_ble_eq_true rfl⟩ ?_
    refine v_ret rfl rfl ?_
    exact qeq k (by split <;> omega)
  · refine v_push rfl ?_
    refine v_goto rfl ?_
    refine v_ret rfl rfl ?_
    exact qeq k (by split <;> omega)
theorem NT_upr {i : Int} (hi : 0 ≤ i ∧ i < ((NT (toks t)).length : Int)) : -1 ≤ (nd (NT (toks t)) i).2.1 ∧ (nd (NT (toks t)) i).2.1 < i := by
  have := NT_up (tkOK_toks t) (i := i.toNat) (by omega)
  rw [← nd_in hi] at this
  omega
theorem S_nextOf {i : Int} (hN : RN (NT (toks t)) M) (hi : 0 ≤ i ∧ i < ((NT (toks t)).length : Int)) (k : Q (some (0, nxq (NT (toks t)) i)) M) : v_call L (d + 2) 101 [(2, 42), (0, i)] M Q := by
  have hl : (NT (toks t)).length ≤ 1216 := hN.2.1
  have u := NT_upr hi
  have z := NT_siz hi
  unfold nxq at k
  refine v_in ?_
  by_cases c : (nd (NT (toks t)) i).2.1 = -1
  · rw [if_neg (fun z => z.1 c)] at k
    refine v_load rfl rfl ⟨rfl, Nat.le_of_ble_eq_true rfl⟩ ?_
    refine v_load rfl rfl ⟨rfl, Nat.le_of_ble_eq_true rfl⟩ ?_
    refine v_callr rfl ⟨Nat.le_of_ble_eq_true rfl, Nat.le_of_ble_eq_true rfl, rfl, Nat.le_of_ble_eq_true rfl, rfl⟩ ?_
    refine S_ndUp hN ?_
    refine v_store rfl ⟨rfl, Nat.le_of_ble_eq_true rfl, Nat.le_of_ble_eq_true rfl, rfl⟩ rfl ?_
    refine v_load rfl rfl ⟨rfl, Nat.le_of_ble_eq_true rfl⟩ ?_
    refine v_load rfl rfl ⟨rfl, Nat.le_of_ble_eq_true rfl⟩ ?_
    refine v_load rfl rfl ⟨rfl, Nat.le_of_ble_eq_true rfl⟩ ?_
    refine v_callr rfl ⟨Nat.le_of_ble_eq_true rfl, Nat.le_of_ble_eq_true rfl, rfl, Nat.le_of_ble_eq_true rfl, rfl⟩ ?_
    refine S_ndSiz hN ?_
    refine v_add rfl (by omega) ?_
    refine v_store rfl ⟨rfl, Nat.le_of_ble_eq_true rfl, Nat.le_of_ble_eq_true rfl, rfl⟩ rfl ?_
    refine v_load rfl rfl ⟨rfl, Nat.le_of_ble_eq_true rfl⟩ ?_
    refine v_push rfl ?_
    refine v_ieq rfl (fun _ => ?_) (fun h => absurd h (by omega))
    refine v_push rfl ?_
    refine v_ret rfl rfl ?_
    exact k
  · have z2 := NT_siz (t := t) (i := (nd (NT (toks t)) i).2.1) ⟨by omega, by omega⟩
    refine v_load rfl rfl ⟨rfl, Nat.le_of_ble_eq_true rfl⟩ ?_
    refine v_load rfl rfl ⟨rfl, Nat.le_of_ble_eq_true rfl⟩ ?_
    refine v_callr rfl ⟨Nat.le_of_ble_eq_true rfl, Nat.le_of_ble_eq_true rfl, rfl, Nat.le_of_ble_eq_true rfl, rfl⟩ ?_
    refine S_ndUp hN ?_
    refine v_store rfl ⟨rfl, Nat.le_of_ble_eq_true rfl, Nat.le_of_ble_eq_true rfl, rfl⟩ rfl ?_
    refine v_load rfl rfl ⟨rfl, Nat.le_of_ble_eq_true rfl⟩ ?_
    refine v_load rfl rfl ⟨rfl, Nat.le_of_ble_eq_true rfl⟩ ?_
    refine v_load rfl rfl ⟨rfl, Nat.le_of_ble_eq_true rfl⟩ ?_
    refine v_callr rfl ⟨Nat.le_of_ble_eq_true rfl, Nat.le_of_ble_eq_true rfl, rfl, Nat.le_of_ble_eq_true rfl, rfl⟩ ?_
    refine S_ndSiz hN ?_
    refine v_add rfl (by omega) ?_
    refine v_store rfl ⟨rfl, Nat.le_of_ble_eq_true rfl, Nat.le_of_ble_eq_true rfl, rfl⟩ rfl ?_
    refine v_load rfl rfl ⟨rfl, Nat.le_of_ble_eq_true rfl⟩ ?_
    refine v_push rfl ?_
    refine v_ieq rfl (fun c3 => ?_) (fun c3 => ?_)
    · refine v_push rfl ?_
      refine v_ret rfl rfl ?_
      first | exact qeq k (by split <;> omega) | (exfalso; omega)
    · refine v_load rfl rfl ⟨rfl, Nat.le_of_ble_eq_true rfl⟩ ?_
      refine v_load rfl rfl ⟨rfl, Nat.le_of_ble_eq_true rfl⟩ ?_
      refine v_load rfl rfl ⟨rfl, Nat.le_of_ble_eq_true rfl⟩ ?_
      refine v_load rfl rfl ⟨rfl, Nat.le_of_ble_eq_true rfl⟩ ?_
      refine v_callr rfl ⟨Nat.le_of_ble_eq_true rfl, Nat.le_of_ble_eq_true rfl, rfl, Nat.le_of_ble_eq_true rfl, rfl⟩ ?_
      refine S_ndSiz hN ?_
      refine v_add rfl (by omega) ?_
      refine v_ige rfl (fun c4 => ?_) (fun c4 => ?_)
      · refine v_push rfl ?_
        refine v_ret rfl rfl ?_
        first | exact qeq k (by split <;> omega) | (exfalso; omega)
      · refine v_load rfl rfl ⟨rfl, Nat.le_of_ble_eq_true rfl⟩ ?_
        refine v_goto rfl ?_
        refine v_ret rfl rfl ?_
        first | exact qeq k (by split <;> omega) | (exfalso; omega)
/-- node -/
noncomputable def nodeQ (s : zA) (i f : Int) : Int := if 0 ≤ i ∧ i < ((NT (toks s.1.1)).length : Int) then (if f = 0 then (nd (NT (toks s.1.1)) i).1 else if f = 1 then pF s.1.1 i else if f = 2 then pE s.1.1 i else if f = 3 then lck (nd (NT (toks s.1.1)) i).2.1 else if f = 4 then (nd (NT (toks s.1.1)) i).2.2.1 else if f = 5 then lck (kid s.1.1 i 0) else if f = 6 then lck (nxq (NT (toks s.1.1)) i) else if f = 7 then (nd (NT (toks s.1.1)) i).2.2.2.2.1 else if f = 8 then b2i (s.2.2.1.2.1 i.toNat) else if f = 9 then (if (nd (NT (toks s.1.1)) i).2.2.2.2.2.2.1 = 0 then -2 else (nd (NT (toks s.1.1)) i).2.2.2.2.2.1) else if f = 10 then (nd (NT (toks s.1.1)) i).2.2.2.2.2.2.1 else if f = 11 then (nd (NT (toks s.1.1)) i).2.2.2.1 else -1) else -1
theorem S_isNodeKept {O : Nat → Int} {Kp : Nat → Bool} {Ls : Int → Int} {nT : Nat} {i : Int} (hN : RN (NT (toks t)) M) (hK : KPC O Kp Ls nT (NT (toks t)).length M) (hi : 0 ≤ i ∧ i < ((NT (toks t)).length : Int)) (k : Q (some (0, b2i (Kp i.toNat))) M) : v_call L (d + 2) 23 [(2, 62), (0, i)] M Q := by
  have hl : (NT (toks t)).length ≤ 1216 := hN.2.1
  have g := hK.2.1 i.toNat (by omega)
  rw [show ((i.toNat : Nat) : Int) = i by omega] at g
  have h01 := b2i_01 (Kp i.toNat)
  have h73 : (z_sC L 73).2 = 1216 := rfl
  refine v_in ?_
  refine v_load rfl rfl ⟨rfl, Nat.le_of_ble_eq_true rfl⟩ ?_
  refine v_getp rfl rfl rfl ?_
  refine v_load rfl rfl ⟨rfl, Nat.le_of_ble_eq_true rfl⟩ ?_
  refine v_callr rfl ⟨Nat.le_of_ble_eq_true rfl, Nat.le_of_ble_eq_true rfl, rfl, Nat.le_of_ble_eq_true rfl, rfl⟩ ?_
  refine S_ndHas hN ?_
  rw [if_pos hi]
  refine v_ifeq rfl (fun c5 => ?_) (fun c5 => ?_)
  · refine v_push rfl ?_
    refine v_retz rfl (by first | exact Or.inl rfl | exact Or.inr rfl | exact b2i_01 _ | omega) ?_
    first | exact qeq k (by omega) | (exfalso; omega)
  · refine v_load rfl rfl ⟨rfl, Nat.le_of_ble_eq_true rfl⟩ ?_
    refine v_load rfl rfl ⟨rfl, Nat.le_of_ble_eq_true rfl⟩ ?_
    refine v_getp rfl rfl rfl ?_
    refine v_len rfl ⟨Nat.le_of_ble_eq_true rfl, Nat.le_of_ble_eq_true rfl⟩ rfl ?_
    refine v_ige rfl (fun c6 => ?_) (fun c6 => ?_)
    · refine v_push rfl ?_
      refine v_retz rfl (by first | exact Or.inl rfl | exact Or.inr rfl | exact b2i_01 _ | omega) ?_
      first | exact qeq k (by omega) | (exfalso; omega)
    · refine v_load rfl rfl ⟨rfl, Nat.le_of_ble_eq_true rfl⟩ ?_
      refine v_getp rfl rfl rfl ?_
      refine v_load rfl rfl ⟨rfl, Nat.le_of_ble_eq_true rfl⟩ ?_
      refine v_ald11 rfl rfl ⟨by omega, by show _ < (1216 : Int); omega⟩ ?_
      rw [g]
      refine v_ifeq rfl (fun c7 => ?_) (fun c7 => ?_)
      · refine v_push rfl ?_
        refine v_retz rfl (by first | exact Or.inl rfl | exact Or.inr rfl | exact b2i_01 _ | omega) ?_
        first | exact qeq k (by omega) | (exfalso; omega)
      · refine v_push rfl ?_
        refine v_goto rfl ?_
        refine v_retz rfl (by first | exact Or.inl rfl | exact Or.inr rfl | exact b2i_01 _ | omega) ?_
        first | exact qeq k (by omega) | (exfalso; omega)
theorem S_node {i f : Int} (hC : CS s M) (hB : BS s n) (k : Q (some (0, nodeQ s i f)) M) : v_call L (d + 10) 143 [(2, 1), (0, i), (0, f)] M Q := by
  obtain ⟨h1, -, -, -, h5, h6, h7, -⟩ := id hC
  have hl := hB.1
  have hlN : (NT (toks s.1.1)).length ≤ 1216 := h6.1.2.1
  refine v_in ?_
  unfold nodeQ at k
  by_cases ci : 0 ≤ i ∧ i < ((NT (toks s.1.1)).length : Int)
  · rw [if_pos ci] at k
    have pre : v_wp L (d + 10) 143 13 [(2, 1), (0, i), (0, f)] [] M Q → v_wp L (d + 10) 143 0 (z_ent (z_ml 143) [(2, 1), (0, i), (0, f)]) [] M Q := by
      intro kk
      refine v_load rfl rfl ⟨rfl, Nat.le_of_ble_eq_true rfl⟩ ?_
      refine v_getp rfl rfl rfl ?_
      refine v_load rfl rfl ⟨rfl, Nat.le_of_ble_eq_true rfl⟩ ?_
      refine v_callr rfl ⟨Nat.le_of_ble_eq_true rfl, Nat.le_of_ble_eq_true rfl, rfl, Nat.le_of_ble_eq_true rfl, rfl⟩ ?_
      refine S_ndHas h6.1 ?_
      rw [if_pos ci]
      refine v_ifne rfl (fun _ => ?_) (fun h => absurd h (by decide))
      exact kk
    refine pre ?_
    by_cases c : 0 ≤ f ∧ f ≤ 11
    · have : f = 0 ∨ f = 1 ∨ f = 2 ∨ f = 3 ∨ f = 4 ∨ f = 5 ∨ f = 6 ∨ f = 7 ∨ f = 8 ∨ f = 9 ∨ f = 10 ∨ f = 11 := by omega
      rcases this with rfl | rfl | rfl | rfl | rfl | rfl | rfl | rfl | rfl | rfl | rfl | rfl
      · refine v_load rfl rfl ⟨rfl, Nat.le_of_ble_eq_true rfl⟩ ?_
        refine v_tsw rfl ?_
        refine v_load rfl rfl ⟨rfl, Nat.le_of_ble_eq_true rfl⟩ ?_
        refine v_getp rfl rfl rfl ?_
        refine v_load rfl rfl ⟨rfl, Nat.le_of_ble_eq_true rfl⟩ ?_
        refine v_callr rfl ⟨Nat.le_of_ble_eq_true rfl, Nat.le_of_ble_eq_true rfl, rfl, Nat.le_of_ble_eq_true rfl, rfl⟩ ?_
        refine S_ndSort h6.1 ?_
        refine v_ret rfl rfl ?_
        exact k
      · refine v_load rfl rfl ⟨rfl, Nat.le_of_ble_eq_true rfl⟩ ?_
        refine v_tsw rfl ?_
        refine v_load rfl rfl ⟨rfl, Nat.le_of_ble_eq_true rfl⟩ ?_
        refine v_getp rfl rfl rfl ?_
        refine v_load rfl rfl ⟨rfl, Nat.le_of_ble_eq_true rfl⟩ ?_
        refine v_callr rfl ⟨Nat.le_of_ble_eq_true rfl, Nat.le_of_ble_eq_true rfl, rfl, Nat.le_of_ble_eq_true rfl, rfl⟩ ?_
        refine S_firstOf h5 h6 hl ?_
        refine v_ret rfl rfl ?_
        exact k
      · refine v_load rfl rfl ⟨rfl, Nat.le_of_ble_eq_true rfl⟩ ?_
        refine v_tsw rfl ?_
        refine v_load rfl rfl ⟨rfl, Nat.le_of_ble_eq_true rfl⟩ ?_
        refine v_getp rfl rfl rfl ?_
        refine v_load rfl rfl ⟨rfl, Nat.le_of_ble_eq_true rfl⟩ ?_
        refine v_callr rfl ⟨Nat.le_of_ble_eq_true rfl, Nat.le_of_ble_eq_true rfl, rfl, Nat.le_of_ble_eq_true rfl, rfl⟩ ?_
        refine S_endOf h1 h5 h6 hl ?_
        refine v_ret rfl rfl ?_
        exact k
      · refine v_load rfl rfl ⟨rfl, Nat.le_of_ble_eq_true rfl⟩ ?_
        refine v_tsw rfl ?_
        refine v_load rfl rfl ⟨rfl, Nat.le_of_ble_eq_true rfl⟩ ?_
        refine v_getp rfl rfl rfl ?_
        refine v_load rfl rfl ⟨rfl, Nat.le_of_ble_eq_true rfl⟩ ?_
        refine v_callr rfl ⟨Nat.le_of_ble_eq_true rfl, Nat.le_of_ble_eq_true rfl, rfl, Nat.le_of_ble_eq_true rfl, rfl⟩ ?_
        refine S_ndUp h6.1 ?_
        refine v_callr rfl ⟨Nat.le_of_ble_eq_true rfl, Nat.le_of_ble_eq_true rfl, rfl, Nat.le_of_ble_eq_true rfl, rfl⟩ ?_
        refine S_orLacking ?_
        refine v_ret rfl rfl ?_
        exact k
      · refine v_load rfl rfl ⟨rfl, Nat.le_of_ble_eq_true rfl⟩ ?_
        refine v_tsw rfl ?_
        refine v_load rfl rfl ⟨rfl, Nat.le_of_ble_eq_true rfl⟩ ?_
        refine v_getp rfl rfl rfl ?_
        refine v_load rfl rfl ⟨rfl, Nat.le_of_ble_eq_true rfl⟩ ?_
        refine v_callr rfl ⟨Nat.le_of_ble_eq_true rfl, Nat.le_of_ble_eq_true rfl, rfl, Nat.le_of_ble_eq_true rfl, rfl⟩ ?_
        refine S_ndKids h6.1 ?_
        refine v_ret rfl rfl ?_
        exact k
      · refine v_load rfl rfl ⟨rfl, Nat.le_of_ble_eq_true rfl⟩ ?_
        refine v_tsw rfl ?_
        refine v_load rfl rfl ⟨rfl, Nat.le_of_ble_eq_true rfl⟩ ?_
        refine v_getp rfl rfl rfl ?_
        refine v_load rfl rfl ⟨rfl, Nat.le_of_ble_eq_true rfl⟩ ?_
        refine v_push rfl ?_
        refine v_callr rfl ⟨Nat.le_of_ble_eq_true rfl, Nat.le_of_ble_eq_true rfl, rfl, Nat.le_of_ble_eq_true rfl, rfl⟩ ?_
        refine S_kidOf h6.1 hlN ?_
        refine v_callr rfl ⟨Nat.le_of_ble_eq_true rfl, Nat.le_of_ble_eq_true rfl, rfl, Nat.le_of_ble_eq_true rfl, rfl⟩ ?_
        refine S_orLacking ?_
        refine v_ret rfl rfl ?_
        exact k
      · refine v_load rfl rfl ⟨rfl, Nat.le_of_ble_eq_true rfl⟩ ?_
        refine v_tsw rfl ?_
        refine v_load rfl rfl ⟨rfl, Nat.le_of_ble_eq_true rfl⟩ ?_
        refine v_getp rfl rfl rfl ?_
        refine v_load rfl rfl ⟨rfl, Nat.le_of_ble_eq_true rfl⟩ ?_
        refine v_callr rfl ⟨Nat.le_of_ble_eq_true rfl, Nat.le_of_ble_eq_true rfl, rfl, Nat.le_of_ble_eq_true rfl, rfl⟩ ?_
        refine S_nextOf h6.1 ci ?_
        refine v_callr rfl ⟨Nat.le_of_ble_eq_true rfl, Nat.le_of_ble_eq_true rfl, rfl, Nat.le_of_ble_eq_true rfl, rfl⟩ ?_
        refine S_orLacking ?_
        refine v_ret rfl rfl ?_
        exact k
      · refine v_load rfl rfl ⟨rfl, Nat.le_of_ble_eq_true rfl⟩ ?_
        refine v_tsw rfl ?_
        refine v_load rfl rfl ⟨rfl, Nat.le_of_ble_eq_true rfl⟩ ?_
        refine v_getp rfl rfl rfl ?_
        refine v_load rfl rfl ⟨rfl, Nat.le_of_ble_eq_true rfl⟩ ?_
        refine v_callr rfl ⟨Nat.le_of_ble_eq_true rfl, Nat.le_of_ble_eq_true rfl, rfl, Nat.le_of_ble_eq_true rfl, rfl⟩ ?_
        refine S_ndDepth h6.1 ?_
        refine v_ret rfl rfl ?_
        exact k
      · have h01 := b2i_01 (s.2.2.1.2.1 i.toNat)
        have k8 : Q (some (0, b2i (s.2.2.1.2.1 i.toNat))) M := k
        refine v_load rfl rfl ⟨rfl, Nat.le_of_ble_eq_true rfl⟩ ?_
        refine v_tsw rfl ?_
        refine v_load rfl rfl ⟨rfl, Nat.le_of_ble_eq_true rfl⟩ ?_
        refine v_getp rfl rfl rfl ?_
        refine v_load rfl rfl ⟨rfl, Nat.le_of_ble_eq_true rfl⟩ ?_
        refine v_callr rfl ⟨Nat.le_of_ble_eq_true rfl, Nat.le_of_ble_eq_true rfl, rfl, Nat.le_of_ble_eq_true rfl, rfl⟩ ?_
        refine S_isNodeKept h6.1 h7 ci ?_
        refine v_ifeq rfl (fun c1 => ?_) (fun c1 => ?_)
        · refine v_push rfl ?_
          refine v_ret rfl rfl ?_
          exact qeq k8 (by omega)
        · refine v_push rfl ?_
          refine v_goto rfl ?_
          refine v_ret rfl rfl ?_
          exact qeq k8 (by omega)
      · have k9 : Q (some (0, if (nd (NT (toks s.1.1)) i).2.2.2.2.2.2.1 = 0 then -2 else (nd (NT (toks s.1.1)) i).2.2.2.2.2.1)) M := k
        refine v_load rfl rfl ⟨rfl, Nat.le_of_ble_eq_true rfl⟩ ?_
        refine v_tsw rfl ?_
        refine v_load rfl rfl ⟨rfl, Nat.le_of_ble_eq_true rfl⟩ ?_
        refine v_getp rfl rfl rfl ?_
        refine v_load rfl rfl ⟨rfl, Nat.le_of_ble_eq_true rfl⟩ ?_
        refine v_callr rfl ⟨Nat.le_of_ble_eq_true rfl, Nat.le_of_ble_eq_true rfl, rfl, Nat.le_of_ble_eq_true rfl, rfl⟩ ?_
        refine S_ndTaken h6.1 ?_
        refine v_ifne rfl (fun c1 => ?_) (fun c1 => ?_)
        · refine v_load rfl rfl ⟨rfl, Nat.le_of_ble_eq_true rfl⟩ ?_
          refine v_getp rfl rfl rfl ?_
          refine v_load rfl rfl ⟨rfl, Nat.le_of_ble_eq_true rfl⟩ ?_
          refine v_callr rfl ⟨Nat.le_of_ble_eq_true rfl, Nat.le_of_ble_eq_true rfl, rfl, Nat.le_of_ble_eq_true rfl, rfl⟩ ?_
          refine S_ndFrom h6.1 ?_
          refine v_ret rfl rfl ?_
          rw [if_neg c1] at k9; exact k9
        · refine v_push rfl ?_
          refine v_goto rfl ?_
          refine v_ret rfl rfl ?_
          rw [if_pos (by omega)] at k9; exact k9
      · refine v_load rfl rfl ⟨rfl, Nat.le_of_ble_eq_true rfl⟩ ?_
        refine v_tsw rfl ?_
        refine v_load rfl rfl ⟨rfl, Nat.le_of_ble_eq_true rfl⟩ ?_
        refine v_getp rfl rfl rfl ?_
        refine v_load rfl rfl ⟨rfl, Nat.le_of_ble_eq_true rfl⟩ ?_
        refine v_callr rfl ⟨Nat.le_of_ble_eq_true rfl, Nat.le_of_ble_eq_true rfl, rfl, Nat.le_of_ble_eq_true rfl, rfl⟩ ?_
        refine S_ndTaken h6.1 ?_
        refine v_ret rfl rfl ?_
        exact k
      · refine v_load rfl rfl ⟨rfl, Nat.le_of_ble_eq_true rfl⟩ ?_
        refine v_tsw rfl ?_
        refine v_load rfl rfl ⟨rfl, Nat.le_of_ble_eq_true rfl⟩ ?_
        refine v_getp rfl rfl rfl ?_
        refine v_load rfl rfl ⟨rfl, Nat.le_of_ble_eq_true rfl⟩ ?_
        refine v_callr rfl ⟨Nat.le_of_ble_eq_true rfl, Nat.le_of_ble_eq_true rfl, rfl, Nat.le_of_ble_eq_true rfl, rfl⟩ ?_
        refine S_ndSiz h6.1 ?_
        refine v_ret rfl rfl ?_
        exact k
    · refine v_load rfl rfl ⟨rfl, Nat.le_of_ble_eq_true rfl⟩ ?_
      refine v_tsw rfl ?_
      rw [z_sw_out _ (by simp only [List.forall_mem_cons, List.not_mem_nil, false_implies, implies_true, and_true]; omega)]
      refine v_push rfl ?_
      refine v_ret rfl rfl ?_
      repeat rw [if_neg (by omega)] at k
      exact k
  · rw [if_neg ci] at k
    refine v_load rfl rfl ⟨rfl, Nat.le_of_ble_eq_true rfl⟩ ?_
    refine v_getp rfl rfl rfl ?_
    refine v_load rfl rfl ⟨rfl, Nat.le_of_ble_eq_true rfl⟩ ?_
    refine v_callr rfl ⟨Nat.le_of_ble_eq_true rfl, Nat.le_of_ble_eq_true rfl, rfl, Nat.le_of_ble_eq_true rfl, rfl⟩ ?_
    refine S_ndHas h6.1 ?_
    rw [if_neg ci]
    refine v_ifne rfl (fun h => absurd h (by decide)) (fun _ => ?_)
    refine v_push rfl ?_
    refine v_ret rfl rfl ?_
    exact k
theorem R_node {i f : Int} (hC : RS s M) (hi : z_i32 i) (k : Q (some (0, nodeQ s i f)) M) : v_call L (d + 10) 269 [(2, 77), (0, i), (0, f)] M Q := by
  obtain ⟨hS, -, -, -, hK, -⟩ := id hC
  have hlN := NT_1216 hS
  refine v_in ?_
  unfold nodeQ at k
  by_cases ci : 0 ≤ i ∧ i < ((NT (toks s.1.1)).length : Int)
  · rw [if_pos ci] at k
    have ci' : 0 ≤ i ∧ i ≤ ((NT (toks s.1.1)).length : Int) - 1 := ⟨ci.1, by omega⟩
    obtain ⟨g1, g2, g3, g4, g5, g6, g7, g8⟩ := TM_nd hS ci
    have g9 := (hS.2.2.1.2.1 i.toNat (by omega)).1
    have gk := hK.2.1 i.toNat (by omega)
    rw [show ((i.toNat : Nat) : Int) = i by omega] at g9 gk
    have nz := NT_siz ci
    have b := NT_bd (tkOK_toks s.1.1) (i := i.toNat) (by omega)
    rw [← nd_in ci] at b
    have pre : v_wp L (d + 10) 269 10 [(2, 77), (0, i), (0, f)] [] M Q → v_wp L (d + 10) 269 0 (z_ent (z_ml 269) [(2, 77), (0, i), (0, f)]) [] M Q := by
      intro kk
      refine v_load rfl rfl ⟨rfl, Nat.le_of_ble_eq_true rfl⟩ ?_
      refine v_load rfl rfl ⟨rfl, Nat.le_of_ble_eq_true rfl⟩ ?_
      refine v_callr rfl ⟨Nat.le_of_ble_eq_true rfl, Nat.le_of_ble_eq_true rfl, rfl, Nat.le_of_ble_eq_true rfl, rfl⟩ ?_
      refine R_isNode hS hi ?_
      rw [b2i_t (decide_eq_true ci')]
      refine v_ifne rfl (fun _ => ?_) (fun h => absurd h (by decide))
      exact kk
    refine pre ?_
    by_cases c : 0 ≤ f ∧ f ≤ 11
    · have : f = 0 ∨ f = 1 ∨ f = 2 ∨ f = 3 ∨ f = 4 ∨ f = 5 ∨ f = 6 ∨ f = 7 ∨ f = 8 ∨ f = 9 ∨ f = 10 ∨ f = 11 := by omega
      rcases this with rfl | rfl | rfl | rfl | rfl | rfl | rfl | rfl | rfl | rfl | rfl | rfl
      · refine v_load rfl rfl ⟨rfl, Nat.le_of_ble_eq_true rfl⟩ ?_
        refine v_tsw rfl ?_
        refine v_load rfl rfl ⟨rfl, Nat.le_of_ble_eq_true rfl⟩ ?_
        refine v_getp rfl rfl rfl ?_
        refine v_load rfl rfl ⟨rfl, Nat.le_of_ble_eq_true rfl⟩ ?_
        refine v_ald9 rfl rfl ⟨by omega, by show _ < (1600 : Int); omega⟩ ?_
        refine v_ret rfl rfl ?_
        rw [g1]; exact k
      · refine v_load rfl rfl ⟨rfl, Nat.le_of_ble_eq_true rfl⟩ ?_
        refine v_tsw rfl ?_
        refine v_load rfl rfl ⟨rfl, Nat.le_of_ble_eq_true rfl⟩ ?_
        refine v_load rfl rfl ⟨rfl, Nat.le_of_ble_eq_true rfl⟩ ?_
        refine v_callr rfl ⟨Nat.le_of_ble_eq_true rfl, Nat.le_of_ble_eq_true rfl, rfl, Nat.le_of_ble_eq_true rfl, rfl⟩ ?_
        refine R_from hS ci ?_
        refine v_ret rfl rfl ?_
        exact k
      · refine v_load rfl rfl ⟨rfl, Nat.le_of_ble_eq_true rfl⟩ ?_
        refine v_tsw rfl ?_
        refine v_load rfl rfl ⟨rfl, Nat.le_of_ble_eq_true rfl⟩ ?_
        refine v_load rfl rfl ⟨rfl, Nat.le_of_ble_eq_true rfl⟩ ?_
        refine v_callr rfl ⟨Nat.le_of_ble_eq_true rfl, Nat.le_of_ble_eq_true rfl, rfl, Nat.le_of_ble_eq_true rfl, rfl⟩ ?_
        refine R_to hS ci ?_
        refine v_ret rfl rfl ?_
        exact k
      · refine v_load rfl rfl ⟨rfl, Nat.le_of_ble_eq_true rfl⟩ ?_
        refine v_tsw rfl ?_
        refine v_load rfl rfl ⟨rfl, Nat.le_of_ble_eq_true rfl⟩ ?_
        refine v_getp rfl rfl rfl ?_
        refine v_load rfl rfl ⟨rfl, Nat.le_of_ble_eq_true rfl⟩ ?_
        refine v_ald9 rfl rfl ⟨by omega, by show _ < (1600 : Int); omega⟩ ?_
        rw [g2]
        refine v_callr rfl ⟨Nat.le_of_ble_eq_true rfl, Nat.le_of_ble_eq_true rfl, rfl, Nat.le_of_ble_eq_true rfl, rfl⟩ ?_
        refine R_orNo ?_
        refine v_ret rfl rfl ?_
        exact k
      · refine v_load rfl rfl ⟨rfl, Nat.le_of_ble_eq_true rfl⟩ ?_
        refine v_tsw rfl ?_
        refine v_load rfl rfl ⟨rfl, Nat.le_of_ble_eq_true rfl⟩ ?_
        refine v_getp rfl rfl rfl ?_
        refine v_load rfl rfl ⟨rfl, Nat.le_of_ble_eq_true rfl⟩ ?_
        refine v_ald9 rfl rfl ⟨by omega, by show _ < (1600 : Int); omega⟩ ?_
        refine v_ret rfl rfl ?_
        rw [g3]; exact k
      · have k5 : Q (some (0, lck (kid s.1.1 i 0))) M := k
        unfold lck kid at k5
        have e0 : (posF (NT (toks s.1.1)) (i.toNat + 1) (0 : Int).toNat : Int) = i + 1 := by show ((i.toNat + 1 : Nat) : Int) = _; omega
        rw [e0] at k5
        refine v_load rfl rfl ⟨rfl, Nat.le_of_ble_eq_true rfl⟩ ?_
        refine v_tsw rfl ?_
        refine v_load rfl rfl ⟨rfl, Nat.le_of_ble_eq_true rfl⟩ ?_
        refine v_getp rfl rfl rfl ?_
        refine v_load rfl rfl ⟨rfl, Nat.le_of_ble_eq_true rfl⟩ ?_
        refine v_ald9 rfl rfl ⟨by omega, by show _ < (1600 : Int); omega⟩ ?_
        rw [g3]
        refine v_ifne rfl (fun c1 => ?_) (fun c1 => ?_)
        · refine v_load rfl rfl ⟨rfl, Nat.le_of_ble_eq_true rfl⟩ ?_
          refine v_push rfl ?_
          refine v_add rfl (by omega) ?_
          refine v_ret rfl rfl ?_
          rw [if_pos (show (0 : Int) ≤ 0 ∧ 0 < (nd (NT (toks s.1.1)) i).2.2.1 by omega), if_neg (by omega)] at k5; exact k5
        · refine v_push rfl ?_
          refine v_goto rfl ?_
          refine v_ret rfl rfl ?_
          rw [if_neg (show ¬ ((0 : Int) ≤ 0 ∧ 0 < (nd (NT (toks s.1.1)) i).2.2.1) by omega), if_pos rfl] at k5; exact k5
      · refine v_load rfl rfl ⟨rfl, Nat.le_of_ble_eq_true rfl⟩ ?_
        refine v_tsw rfl ?_
        refine v_load rfl rfl ⟨rfl, Nat.le_of_ble_eq_true rfl⟩ ?_
        refine v_getp rfl rfl rfl ?_
        refine v_load rfl rfl ⟨rfl, Nat.le_of_ble_eq_true rfl⟩ ?_
        refine v_ald9 rfl rfl ⟨by omega, by show _ < (1600 : Int); omega⟩ ?_
        rw [g9]
        refine v_callr rfl ⟨Nat.le_of_ble_eq_true rfl, Nat.le_of_ble_eq_true rfl, rfl, Nat.le_of_ble_eq_true rfl, rfl⟩ ?_
        refine R_orNo ?_
        refine v_ret rfl rfl ?_
        exact k
      · refine v_load rfl rfl ⟨rfl, Nat.le_of_ble_eq_true rfl⟩ ?_
        refine v_tsw rfl ?_
        refine v_load rfl rfl ⟨rfl, Nat.le_of_ble_eq_true rfl⟩ ?_
        refine v_getp rfl rfl rfl ?_
        refine v_load rfl rfl ⟨rfl, Nat.le_of_ble_eq_true rfl⟩ ?_
        refine v_ald9 rfl rfl ⟨by omega, by show _ < (1600 : Int); omega⟩ ?_
        refine v_ret rfl rfl ?_
        rw [g5]; exact k
      · have h01 := b2i_01 (s.2.2.1.2.1 i.toNat)
        have k8 : Q (some (0, b2i (s.2.2.1.2.1 i.toNat))) M := k
        refine v_load rfl rfl ⟨rfl, Nat.le_of_ble_eq_true rfl⟩ ?_
        refine v_tsw rfl ?_
        refine v_load rfl rfl ⟨rfl, Nat.le_of_ble_eq_true rfl⟩ ?_
        refine v_getp rfl rfl rfl ?_
        refine v_load rfl rfl ⟨rfl, Nat.le_of_ble_eq_true rfl⟩ ?_
        refine v_ald11 rfl rfl ⟨by omega, by show _ < (1600 : Int); omega⟩ ?_
        rw [gk]
        refine v_ifeq rfl (fun c1 => ?_) (fun c1 => ?_)
        · refine v_push rfl ?_
          refine v_ret rfl rfl ?_
          exact qeq k8 (by omega)
        · refine v_push rfl ?_
          refine v_goto rfl ?_
          refine v_ret rfl rfl ?_
          exact qeq k8 (by omega)
      · have k9 : Q (some (0, if (nd (NT (toks s.1.1)) i).2.2.2.2.2.2.1 = 0 then -2 else (nd (NT (toks s.1.1)) i).2.2.2.2.2.1)) M := k
        refine v_load rfl rfl ⟨rfl, Nat.le_of_ble_eq_true rfl⟩ ?_
        refine v_tsw rfl ?_
        refine v_load rfl rfl ⟨rfl, Nat.le_of_ble_eq_true rfl⟩ ?_
        refine v_getp rfl rfl rfl ?_
        refine v_load rfl rfl ⟨rfl, Nat.le_of_ble_eq_true rfl⟩ ?_
        refine v_ald9 rfl rfl ⟨by omega, by show _ < (1600 : Int); omega⟩ ?_
        rw [g7]
        refine v_ifne rfl (fun c1 => ?_) (fun c1 => ?_)
        · refine v_load rfl rfl ⟨rfl, Nat.le_of_ble_eq_true rfl⟩ ?_
          refine v_getp rfl rfl rfl ?_
          refine v_load rfl rfl ⟨rfl, Nat.le_of_ble_eq_true rfl⟩ ?_
          refine v_ald9 rfl rfl ⟨by omega, by show _ < (1600 : Int); omega⟩ ?_
          refine v_ret rfl rfl ?_
          rw [g6, if_pos (by omega)]; rw [if_neg c1] at k9; exact k9
        · refine v_push rfl ?_
          refine v_goto rfl ?_
          refine v_ret rfl rfl ?_
          rw [if_pos (by omega)] at k9; exact k9
      · refine v_load rfl rfl ⟨rfl, Nat.le_of_ble_eq_true rfl⟩ ?_
        refine v_tsw rfl ?_
        refine v_load rfl rfl ⟨rfl, Nat.le_of_ble_eq_true rfl⟩ ?_
        refine v_getp rfl rfl rfl ?_
        refine v_load rfl rfl ⟨rfl, Nat.le_of_ble_eq_true rfl⟩ ?_
        refine v_ald9 rfl rfl ⟨by omega, by show _ < (1600 : Int); omega⟩ ?_
        refine v_ret rfl rfl ?_
        rw [g7]; exact k
      · refine v_load rfl rfl ⟨rfl, Nat.le_of_ble_eq_true rfl⟩ ?_
        refine v_tsw rfl ?_
        refine v_load rfl rfl ⟨rfl, Nat.le_of_ble_eq_true rfl⟩ ?_
        refine v_getp rfl rfl rfl ?_
        refine v_load rfl rfl ⟨rfl, Nat.le_of_ble_eq_true rfl⟩ ?_
        refine v_ald9 rfl rfl ⟨by omega, by show _ < (1600 : Int); omega⟩ ?_
        refine v_ret rfl rfl ?_
        rw [g4]; exact k
    · refine v_load rfl rfl ⟨rfl, Nat.le_of_ble_eq_true rfl⟩ ?_
      refine v_tsw rfl ?_
      rw [z_sw_out _ (by simp only [List.forall_mem_cons, List.not_mem_nil, false_implies, implies_true, and_true]; omega)]
      refine v_push rfl ?_
      refine v_ret rfl rfl ?_
      repeat rw [if_neg (by omega)] at k
      exact k
  · rw [if_neg ci] at k
    refine v_load rfl rfl ⟨rfl, Nat.le_of_ble_eq_true rfl⟩ ?_
    refine v_load rfl rfl ⟨rfl, Nat.le_of_ble_eq_true rfl⟩ ?_
    refine v_callr rfl ⟨Nat.le_of_ble_eq_true rfl, Nat.le_of_ble_eq_true rfl, rfl, Nat.le_of_ble_eq_true rfl, rfl⟩ ?_
    refine R_isNode hS hi ?_
    rw [b2i_f (by simp only [decide_eq_true_eq]; omega)]
    refine v_ifne rfl (fun h => absurd h (by decide)) (fun _ => ?_)
    refine v_push rfl ?_
    refine v_ret rfl rfl ?_
    exact k
/-- child -/
noncomputable def childQ (s : zA) (i j : Int) : Int := if (0 ≤ i ∧ i < ((NT (toks s.1.1)).length : Int)) ∧ 0 ≤ j then lck (kid s.1.1 i j) else -1
theorem S_child {i j : Int} (hC : CS s M) (k : Q (some (0, childQ s i j)) M) : v_call L (d + 10) 144 [(2, 1), (0, i), (0, j)] M Q := by
  have h6 := hC.2.2.2.2.2.1
  have hlN : (NT (toks s.1.1)).length ≤ 1216 := h6.1.2.1
  unfold childQ at k
  refine v_in ?_
  refine v_load rfl rfl ⟨rfl, Nat.le_of_ble_eq_true rfl⟩ ?_
  refine v_getp rfl rfl rfl ?_
  refine v_load rfl rfl ⟨rfl, Nat.le_of_ble_eq_true rfl⟩ ?_
  refine v_callr rfl ⟨Nat.le_of_ble_eq_true rfl, Nat.le_of_ble_eq_true rfl, rfl, Nat.le_of_ble_eq_true rfl, rfl⟩ ?_
  refine S_ndHas h6.1 ?_
  refine v_ifeq rfl (fun c8 => ?_) (fun c8 => ?_)
  · refine v_push rfl ?_
    refine v_ret rfl rfl ?_
    first | (rw [if_neg (by omega)] at k; exact k) | (rw [if_pos (by omega)] at k; exact k)
  · refine v_load rfl rfl ⟨rfl, Nat.le_of_ble_eq_true rfl⟩ ?_
    refine v_ifge rfl (fun c9 => ?_) (fun c9 => ?_)
    · refine v_load rfl rfl ⟨rfl, Nat.le_of_ble_eq_true rfl⟩ ?_
      refine v_getp rfl rfl rfl ?_
      refine v_load rfl rfl ⟨rfl, Nat.le_of_ble_eq_true rfl⟩ ?_
      refine v_load rfl rfl ⟨rfl, Nat.le_of_ble_eq_true rfl⟩ ?_
      refine v_callr rfl ⟨Nat.le_of_ble_eq_true rfl, Nat.le_of_ble_eq_true rfl, rfl, Nat.le_of_ble_eq_true rfl, rfl⟩ ?_
      refine S_kidOf h6.1 hlN ?_
      refine v_callr rfl ⟨Nat.le_of_ble_eq_true rfl, Nat.le_of_ble_eq_true rfl, rfl, Nat.le_of_ble_eq_true rfl, rfl⟩ ?_
      refine S_orLacking ?_
      refine v_ret rfl rfl ?_
      first | (rw [if_neg (by omega)] at k; exact k) | (rw [if_pos (by omega)] at k; exact k)
    · refine v_push rfl ?_
      refine v_ret rfl rfl ?_
      first | (rw [if_neg (by omega)] at k; exact k) | (rw [if_pos (by omega)] at k; exact k)
theorem R_child {i j : Int} (hC : RS s M) (hi : z_i32 i) (k : Q (some (0, childQ s i j)) M) : v_call L (d + 10) 270 [(2, 77), (0, i), (0, j)] M Q := by
  have hS := hC.1
  have hlN := NT_1216 hS
  unfold childQ at k
  refine v_in ?_
  by_cases ci : 0 ≤ i ∧ i ≤ ((NT (toks s.1.1)).length : Int) - 1
  · have ci' : 0 ≤ i ∧ i < ((NT (toks s.1.1)).length : Int) := ⟨ci.1, by omega⟩
    have g3 := (TM_nd hS ci').2.2.1
    by_cases c0 : 0 ≤ j
    · rw [if_pos ⟨ci', c0⟩] at k
      by_cases c1 : j < (nd (NT (toks s.1.1)) i).2.2.1
      · have ki := kid_in (t := s.1.1) (i := i) ⟨c0, c1⟩
        unfold lck at k
        rw [if_neg (by omega)] at k
        refine v_load rfl rfl ⟨rfl, Nat.le_of_ble_eq_true rfl⟩ ?_
        refine v_load rfl rfl ⟨rfl, Nat.le_of_ble_eq_true rfl⟩ ?_
        refine v_callr rfl ⟨Nat.le_of_ble_eq_true rfl, Nat.le_of_ble_eq_true rfl, rfl, Nat.le_of_ble_eq_true rfl, rfl⟩ ?_
        refine R_isNode hS hi ?_
        rw [b2i_t (decide_eq_true ci)]
        refine v_ifeq rfl (fun h => absurd h (by decide)) (fun _ => ?_)
        refine v_load rfl rfl ⟨rfl, Nat.le_of_ble_eq_true rfl⟩ ?_
        refine v_ifge rfl (fun _ => ?_) (fun h => absurd h (by omega))
        refine v_load rfl rfl ⟨rfl, Nat.le_of_ble_eq_true rfl⟩ ?_
        refine v_load rfl rfl ⟨rfl, Nat.le_of_ble_eq_true rfl⟩ ?_
        refine v_getp rfl rfl rfl ?_
        refine v_load rfl rfl ⟨rfl, Nat.le_of_ble_eq_true rfl⟩ ?_
        refine v_ald9 rfl rfl ⟨by omega, by show _ < (1600 : Int); omega⟩ ?_
        rw [g3]
        refine v_ige rfl (fun h => absurd h (by omega)) (fun _ => ?_)
        refine v_load rfl rfl ⟨rfl, Nat.le_of_ble_eq_true rfl⟩ ?_
        refine v_load rfl rfl ⟨rfl, Nat.le_of_ble_eq_true rfl⟩ ?_
        refine v_load rfl rfl ⟨rfl, Nat.le_of_ble_eq_true rfl⟩ ?_
        refine v_callr rfl ⟨Nat.le_of_ble_eq_true rfl, Nat.le_of_ble_eq_true rfl, rfl, Nat.le_of_ble_eq_true rfl, rfl⟩ ?_
        refine R_childOf hS ci' ⟨c0, c1⟩ ?_
        refine v_goto rfl ?_
        refine v_ret rfl rfl ?_
        exact k
      · unfold lck kid at k
        rw [if_neg (show ¬ (0 ≤ j ∧ j < (nd (NT (toks s.1.1)) i).2.2.1) from fun z => c1 z.2), if_pos rfl] at k
        refine v_load rfl rfl ⟨rfl, Nat.le_of_ble_eq_true rfl⟩ ?_
        refine v_load rfl rfl ⟨rfl, Nat.le_of_ble_eq_true rfl⟩ ?_
        refine v_callr rfl ⟨Nat.le_of_ble_eq_true rfl, Nat.le_of_ble_eq_true rfl, rfl, Nat.le_of_ble_eq_true rfl, rfl⟩ ?_
        refine R_isNode hS hi ?_
        rw [b2i_t (decide_eq_true ci)]
        refine v_ifeq rfl (fun h => absurd h (by decide)) (fun _ => ?_)
        refine v_load rfl rfl ⟨rfl, Nat.le_of_ble_eq_true rfl⟩ ?_
        refine v_ifge rfl (fun _ => ?_) (fun h => absurd h (by omega))
        refine v_load rfl rfl ⟨rfl, Nat.le_of_ble_eq_true rfl⟩ ?_
        refine v_load rfl rfl ⟨rfl, Nat.le_of_ble_eq_true rfl⟩ ?_
        refine v_getp rfl rfl rfl ?_
        refine v_load rfl rfl ⟨rfl, Nat.le_of_ble_eq_true rfl⟩ ?_
        refine v_ald9 rfl rfl ⟨by omega, by show _ < (1600 : Int); omega⟩ ?_
        rw [g3]
        refine v_ige rfl (fun _ => ?_) (fun h => absurd h (by omega))
        refine v_push rfl ?_
        refine v_ret rfl rfl ?_
        exact k
    · rw [if_neg (fun z => c0 z.2)] at k
      refine v_load rfl rfl ⟨rfl, Nat.le_of_ble_eq_true rfl⟩ ?_
      refine v_load rfl rfl ⟨rfl, Nat.le_of_ble_eq_true rfl⟩ ?_
      refine v_callr rfl ⟨Nat.le_of_ble_eq_true rfl, Nat.le_of_ble_eq_true rfl, rfl, Nat.le_of_ble_eq_true rfl, rfl⟩ ?_
      refine R_isNode hS hi ?_
      rw [b2i_t (decide_eq_true ci)]
      refine v_ifeq rfl (fun h => absurd h (by decide)) (fun _ => ?_)
      refine v_load rfl rfl ⟨rfl, Nat.le_of_ble_eq_true rfl⟩ ?_
      refine v_ifge rfl (fun h => absurd h (by omega)) (fun _ => ?_)
      refine v_push rfl ?_
      refine v_ret rfl rfl ?_
      exact k
  · rw [if_neg (by omega)] at k
    refine v_load rfl rfl ⟨rfl, Nat.le_of_ble_eq_true rfl⟩ ?_
    refine v_load rfl rfl ⟨rfl, Nat.le_of_ble_eq_true rfl⟩ ?_
    refine v_callr rfl ⟨Nat.le_of_ble_eq_true rfl, Nat.le_of_ble_eq_true rfl, rfl, Nat.le_of_ble_eq_true rfl, rfl⟩ ?_
    refine R_isNode hS hi ?_
    rw [b2i_f (by simpa using ci)]
    refine v_ifeq rfl (fun _ => ?_) (fun h => absurd h (by decide))
    refine v_push rfl ?_
    refine v_ret rfl rfl ?_
    exact k
/-- find -/
noncomputable def fdP (t : List Int) (so : Int) (j : Nat) : Bool := decide ((nd (NT (toks t)) (j : Int)).1 = so)
noncomputable def findQ (s : zA) (so m : Int) : Int := if 0 ≤ so ∧ so ≤ 17 ∧ -1 ≤ m then (if m = -1 then mnS (NT (toks s.1.1)) so (NT (toks s.1.1)).length else if m < ((flt (fdP s.1.1 so) (NT (toks s.1.1)).length).length : Int) then ((flt (fdP s.1.1 so) (NT (toks s.1.1)).length).getD m.toNat 0 : Int) else -2) else -1
theorem flt_at {p : Nat → Bool} {n j : Nat} (hj : j < n) (c : p j = true) : (flt p j).length < (flt p n).length ∧ (flt p n).getD (flt p j).length 0 = j := by
  obtain ⟨R, e⟩ := flt_pre p (j + 1) (n - (j + 1))
  rw [show j + 1 + (n - (j + 1)) = n by omega] at e
  rw [e, flt_y c]
  refine ⟨by simp, ?_⟩
  rw [List.append_assoc, List.getD_eq_getElem?_getD, List.getElem?_append_right (Nat.le_refl _), Nat.sub_self]
  rfl
theorem S_find_loop {so m : Int} (hs : 0 ≤ so) (hm : 0 ≤ m ∧ m ≤ 2147483647) (hN : RN (NT (toks t)) M) (k : Q (some (0, if m < ((flt (fdP t so) (NT (toks t)).length).length : Int) then ((flt (fdP t so) (NT (toks t)).length).getD m.toNat 0 : Int) else -2)) M) : ∀ (n j : Nat), n = (NT (toks t)).length - j → j ≤ (NT (toks t)).length → ((flt (fdP t so) j).length : Int) ≤ m → v_wp L (d + 2) 145 36 [(2, 1), (0, so), (0, m), (0, m - ((flt (fdP t so) j).length : Int)), (0, (j : Int))] [] M Q := by
  intro n
  have hl : (NT (toks t)).length ≤ 1216 := hN.2.1
  induction n with
  | zero =>
    intro j hn hj he
    have ej : j = (NT (toks t)).length := by omega
    subst ej
    rw [if_neg (by omega)] at k
    refine v_load rfl rfl ⟨rfl, Nat.le_of_ble_eq_true rfl⟩ ?_
    refine v_load rfl rfl ⟨rfl, Nat.le_of_ble_eq_true rfl⟩ ?_
    refine v_getp rfl rfl rfl ?_
    refine v_callr rfl ⟨Nat.le_of_ble_eq_true rfl, Nat.le_of_ble_eq_true rfl, rfl, Nat.le_of_ble_eq_true rfl, rfl⟩ ?_
    refine S_ndSize hN ?_
    refine v_ige rfl (fun _ => ?_) (fun h => absurd h (by omega))
    refine v_push rfl ?_
    refine v_ret rfl rfl ?_
    exact k
  | succ n ih =>
    intro j hn hj he
    by_cases c : fdP t so j = true
    · have c' := of_decide_eq_true c
      by_cases c2 : ((flt (fdP t so) j).length : Int) = m
      · have fa := flt_at (p := fdP t so) (n := (NT (toks t)).length) (j := j) (by omega) c
        rw [if_pos (by omega), show m.toNat = (flt (fdP t so) j).length by omega, fa.2] at k
        refine v_load rfl rfl ⟨rfl, Nat.le_of_ble_eq_true rfl⟩ ?_
        refine v_load rfl rfl ⟨rfl, Nat.le_of_ble_eq_true rfl⟩ ?_
        refine v_getp rfl rfl rfl ?_
        refine v_callr rfl ⟨Nat.le_of_ble_eq_true rfl, Nat.le_of_ble_eq_true rfl, rfl, Nat.le_of_ble_eq_true rfl, rfl⟩ ?_
        refine S_ndSize hN ?_
        refine v_ige rfl (fun h => absurd h (by omega)) (fun _ => ?_)
        refine v_load rfl rfl ⟨rfl, Nat.le_of_ble_eq_true rfl⟩ ?_
        refine v_getp rfl rfl rfl ?_
        refine v_load rfl rfl ⟨rfl, Nat.le_of_ble_eq_true rfl⟩ ?_
        refine v_load rfl rfl ⟨rfl, Nat.le_of_ble_eq_true rfl⟩ ?_
        refine v_callr rfl ⟨Nat.le_of_ble_eq_true rfl, Nat.le_of_ble_eq_true rfl, rfl, Nat.le_of_ble_eq_true rfl, rfl⟩ ?_
        refine S_ndIsOf hN hs ?_
        rw [b2i_t (decide_eq_true c')]
        refine v_ifeq rfl (fun h => absurd h (by decide)) (fun _ => ?_)
        refine v_load rfl rfl ⟨rfl, Nat.le_of_ble_eq_true rfl⟩ ?_
        refine v_ifne rfl (fun h => absurd h (by omega)) (fun _ => ?_)
        refine v_load rfl rfl ⟨rfl, Nat.le_of_ble_eq_true rfl⟩ ?_
        refine v_ret rfl rfl ?_
        exact k
      · have e : (flt (fdP t so) (j + 1)).length = (flt (fdP t so) j).length + 1 := by rw [flt_y c]; simp
        have ihh := ih (j + 1) (by omega) (by omega) (by omega)
        rw [e, show m - (((flt (fdP t so) j).length + 1 : Nat) : Int) = m - ((flt (fdP t so) j).length : Int) + -1 by omega, show ((j + 1 : Nat) : Int) = (j : Int) + 1 by omega] at ihh
        have hfl := flt_len (fdP t so) j
        refine v_load rfl rfl ⟨rfl, Nat.le_of_ble_eq_true rfl⟩ ?_
        refine v_load rfl rfl ⟨rfl, Nat.le_of_ble_eq_true rfl⟩ ?_
        refine v_getp rfl rfl rfl ?_
        refine v_callr rfl ⟨Nat.le_of_ble_eq_true rfl, Nat.le_of_ble_eq_true rfl, rfl, Nat.le_of_ble_eq_true rfl, rfl⟩ ?_
        refine S_ndSize hN ?_
        refine v_ige rfl (fun h => absurd h (by omega)) (fun _ => ?_)
        refine v_load rfl rfl ⟨rfl, Nat.le_of_ble_eq_true rfl⟩ ?_
        refine v_getp rfl rfl rfl ?_
        refine v_load rfl rfl ⟨rfl, Nat.le_of_ble_eq_true rfl⟩ ?_
        refine v_load rfl rfl ⟨rfl, Nat.le_of_ble_eq_true rfl⟩ ?_
        refine v_callr rfl ⟨Nat.le_of_ble_eq_true rfl, Nat.le_of_ble_eq_true rfl, rfl, Nat.le_of_ble_eq_true rfl, rfl⟩ ?_
        refine S_ndIsOf hN hs ?_
        rw [b2i_t (decide_eq_true c')]
        refine v_ifeq rfl (fun h => absurd h (by decide)) (fun _ => ?_)
        refine v_load rfl rfl ⟨rfl, Nat.le_of_ble_eq_true rfl⟩ ?_
        refine v_ifne rfl (fun _ => ?_) (fun h => absurd h (by omega))
        refine v_iinc rfl rfl rfl (by omega) rfl ?_
        refine v_iinc rfl rfl rfl (by omega) rfl ?_
        refine v_goto rfl ?_
        exact ihh
    · have c' : ¬ (nd (NT (toks t)) (j : Int)).1 = so := fun z => c (decide_eq_true z)
      have ihh := ih (j + 1) (by omega) (by omega) (by rw [flt_n c]; exact he)
      rw [flt_n c, show ((j + 1 : Nat) : Int) = (j : Int) + 1 by omega] at ihh
      refine v_load rfl rfl ⟨rfl, Nat.le_of_ble_eq_true rfl⟩ ?_
      refine v_load rfl rfl ⟨rfl, Nat.le_of_ble_eq_true rfl⟩ ?_
      refine v_getp rfl rfl rfl ?_
      refine v_callr rfl ⟨Nat.le_of_ble_eq_true rfl, Nat.le_of_ble_eq_true rfl, rfl, Nat.le_of_ble_eq_true rfl, rfl⟩ ?_
      refine S_ndSize hN ?_
      refine v_ige rfl (fun h => absurd h (by omega)) (fun _ => ?_)
      refine v_load rfl rfl ⟨rfl, Nat.le_of_ble_eq_true rfl⟩ ?_
      refine v_getp rfl rfl rfl ?_
      refine v_load rfl rfl ⟨rfl, Nat.le_of_ble_eq_true rfl⟩ ?_
      refine v_load rfl rfl ⟨rfl, Nat.le_of_ble_eq_true rfl⟩ ?_
      refine v_callr rfl ⟨Nat.le_of_ble_eq_true rfl, Nat.le_of_ble_eq_true rfl, rfl, Nat.le_of_ble_eq_true rfl, rfl⟩ ?_
      refine S_ndIsOf hN hs ?_
      rw [b2i_f (by simpa using c')]
      refine v_ifeq rfl (fun _ => ?_) (fun h => absurd h (by decide))
      refine v_iinc rfl rfl rfl (by omega) rfl ?_
      refine v_goto rfl ?_
      exact ihh
theorem S_find {so m : Int} (hC : CS s M) (hm32 : z_i32 m) (k : Q (some (0, findQ s so m)) M) : v_call L (d + 10) 145 [(2, 1), (0, so), (0, m)] M Q := by
  have h6 := hC.2.2.2.2.2.1
  unfold findQ at k
  refine v_in ?_
  by_cases c : 0 ≤ so ∧ so ≤ 17 ∧ -1 ≤ m
  · rw [if_pos c] at k
    by_cases c1 : m = -1
    · rw [if_pos c1] at k
      refine v_load rfl rfl ⟨rfl, Nat.le_of_ble_eq_true rfl⟩ ?_
      refine v_iflt rfl (fun h => absurd h (by omega)) (fun _ => ?_)
      refine v_load rfl rfl ⟨rfl, Nat.le_of_ble_eq_true rfl⟩ ?_
      refine v_push rfl ?_
      refine v_ige rfl (fun h => absurd h (by omega)) (fun _ => ?_)
      refine v_load rfl rfl ⟨rfl, Nat.le_of_ble_eq_true rfl⟩ ?_
      refine v_push rfl ?_
      refine v_ige rfl (fun _ => ?_) (fun h => absurd h (by omega))
      refine v_load rfl rfl ⟨rfl, Nat.le_of_ble_eq_true rfl⟩ ?_
      refine v_push rfl ?_
      refine v_ine rfl (fun h => absurd h (by omega)) (fun _ => ?_)
      refine v_load rfl rfl ⟨rfl, Nat.le_of_ble_eq_true rfl⟩ ?_
      refine v_getp rfl rfl rfl ?_
      refine v_load rfl rfl ⟨rfl, Nat.le_of_ble_eq_true rfl⟩ ?_
      refine v_callr rfl ⟨Nat.le_of_ble_eq_true rfl, Nat.le_of_ble_eq_true rfl, rfl, Nat.le_of_ble_eq_true rfl, rfl⟩ ?_
      refine S_manyOf c.1 h6.1 ?_
      refine v_ret rfl rfl ?_
      exact k
    · rw [if_neg c1] at k
      refine v_load rfl rfl ⟨rfl, Nat.le_of_ble_eq_true rfl⟩ ?_
      refine v_iflt rfl (fun h => absurd h (by omega)) (fun _ => ?_)
      refine v_load rfl rfl ⟨rfl, Nat.le_of_ble_eq_true rfl⟩ ?_
      refine v_push rfl ?_
      refine v_ige rfl (fun h => absurd h (by omega)) (fun _ => ?_)
      refine v_load rfl rfl ⟨rfl, Nat.le_of_ble_eq_true rfl⟩ ?_
      refine v_push rfl ?_
      refine v_ige rfl (fun _ => ?_) (fun h => absurd h (by omega))
      refine v_load rfl rfl ⟨rfl, Nat.le_of_ble_eq_true rfl⟩ ?_
      refine v_push rfl ?_
      refine v_ine rfl (fun _ => ?_) (fun h => absurd h (by omega))
      refine v_load rfl rfl ⟨rfl, Nat.le_of_ble_eq_true rfl⟩ ?_
      refine v_store rfl ⟨rfl, Nat.le_of_ble_eq_true rfl, Nat.le_of_ble_eq_true rfl, rfl⟩ rfl ?_
      refine v_push rfl ?_
      refine v_store rfl ⟨rfl, Nat.le_of_ble_eq_true rfl, Nat.le_of_ble_eq_true rfl, rfl⟩ rfl ?_
      have := S_find_loop (L := L) (d := d + 8) (t := s.1.1) c.1 (by unfold z_i32 at hm32; omega) h6.1 k _ 0 rfl (Nat.zero_le _) (show ((0 : Nat) : Int) ≤ m by omega)
      rw [show m - ((flt (fdP s.1.1 so) 0).length : Int) = m by show m - (0 : Int) = m; omega] at this
      exact this
  · rw [if_neg c] at k
    refine v_load rfl rfl ⟨rfl, Nat.le_of_ble_eq_true rfl⟩ ?_
    refine v_iflt rfl (fun c10 => ?_) (fun c10 => ?_)
    · refine v_push rfl ?_
      refine v_ret rfl rfl ?_
      first | exact k | (exfalso; omega)
    · refine v_load rfl rfl ⟨rfl, Nat.le_of_ble_eq_true rfl⟩ ?_
      refine v_push rfl ?_
      refine v_ige rfl (fun c11 => ?_) (fun c11 => ?_)
      · refine v_push rfl ?_
        refine v_ret rfl rfl ?_
        first | exact k | (exfalso; omega)
      · refine v_load rfl rfl ⟨rfl, Nat.le_of_ble_eq_true rfl⟩ ?_
        refine v_push rfl ?_
        refine v_ige rfl (fun c12 => ?_) (fun c12 => ?_)
        · first | exact k | (exfalso; omega)
        · refine v_push rfl ?_
          refine v_ret rfl rfl ?_
          first | exact k | (exfalso; omega)
theorem R_find_loop {so m : Int} (hm : 0 ≤ m) (hS : RSt t M) (k : Q (some (0, if m < ((flt (fdP t so) (NT (toks t)).length).length : Int) then ((flt (fdP t so) (NT (toks t)).length).getD m.toNat 0 : Int) else -2)) M) : ∀ (n j : Nat), n = (NT (toks t)).length - j → j ≤ (NT (toks t)).length → ((flt (fdP t so) j).length : Int) ≤ m → v_wp L (d + 2) 272 31 [(2, 77), (0, so), (0, m), (0, ((flt (fdP t so) j).length : Int)), (0, (j : Int))] [] M Q := by
  intro n
  have hl := NT_1216 hS
  have h44 := (TM_len hS.2.2.1).1
  induction n with
  | zero =>
    intro j hn hj he
    have ej : j = (NT (toks t)).length := by omega
    subst ej
    rw [if_neg (by omega)] at k
    refine v_load rfl rfl ⟨rfl, Nat.le_of_ble_eq_true rfl⟩ ?_
    refine v_load rfl rfl ⟨rfl, Nat.le_of_ble_eq_true rfl⟩ ?_
    refine v_getx rfl rfl (h44) ?_
    refine v_ige rfl (fun _ => ?_) (fun h => absurd h (by omega))
    refine v_push rfl ?_
    refine v_ret rfl rfl ?_
    exact k
  | succ n ih =>
    intro j hn hj he
    have g1 := (TM_nd hS (i := (j : Int)) ⟨by omega, by omega⟩).1
    by_cases c : fdP t so j = true
    · have c' := of_decide_eq_true c
      by_cases c2 : ((flt (fdP t so) j).length : Int) = m
      · have fa := flt_at (p := fdP t so) (n := (NT (toks t)).length) (j := j) (by omega) c
        rw [if_pos (by omega), show m.toNat = (flt (fdP t so) j).length by omega, fa.2] at k
        refine v_load rfl rfl ⟨rfl, Nat.le_of_ble_eq_true rfl⟩ ?_
        refine v_load rfl rfl ⟨rfl, Nat.le_of_ble_eq_true rfl⟩ ?_
        refine v_getx rfl rfl (h44) ?_
        refine v_ige rfl (fun h => absurd h (by omega)) (fun _ => ?_)
        refine v_load rfl rfl ⟨rfl, Nat.le_of_ble_eq_true rfl⟩ ?_
        refine v_getp rfl rfl rfl ?_
        refine v_load rfl rfl ⟨rfl, Nat.le_of_ble_eq_true rfl⟩ ?_
        refine v_ald9 rfl rfl ⟨by omega, by show _ < (1600 : Int); omega⟩ ?_
        rw [g1]
        refine v_load rfl rfl ⟨rfl, Nat.le_of_ble_eq_true rfl⟩ ?_
        refine v_ieq rfl (fun _ => ?_) (fun h => absurd h (by omega))
        refine v_load rfl rfl ⟨rfl, Nat.le_of_ble_eq_true rfl⟩ ?_
        refine v_load rfl rfl ⟨rfl, Nat.le_of_ble_eq_true rfl⟩ ?_
        refine v_ine rfl (fun h => absurd h (by omega)) (fun _ => ?_)
        refine v_load rfl rfl ⟨rfl, Nat.le_of_ble_eq_true rfl⟩ ?_
        refine v_ret rfl rfl ?_
        exact k
      · have e : (flt (fdP t so) (j + 1)).length = (flt (fdP t so) j).length + 1 := by rw [flt_y c]; simp
        have ihh := ih (j + 1) (by omega) (by omega) (by omega)
        rw [e, show (((flt (fdP t so) j).length + 1 : Nat) : Int) = ((flt (fdP t so) j).length : Int) + 1 by omega, show ((j + 1 : Nat) : Int) = (j : Int) + 1 by omega] at ihh
        have hfl := flt_len (fdP t so) j
        refine v_load rfl rfl ⟨rfl, Nat.le_of_ble_eq_true rfl⟩ ?_
        refine v_load rfl rfl ⟨rfl, Nat.le_of_ble_eq_true rfl⟩ ?_
        refine v_getx rfl rfl (h44) ?_
        refine v_ige rfl (fun h => absurd h (by omega)) (fun _ => ?_)
        refine v_load rfl rfl ⟨rfl, Nat.le_of_ble_eq_true rfl⟩ ?_
        refine v_getp rfl rfl rfl ?_
        refine v_load rfl rfl ⟨rfl, Nat.le_of_ble_eq_true rfl⟩ ?_
        refine v_ald9 rfl rfl ⟨by omega, by show _ < (1600 : Int); omega⟩ ?_
        rw [g1]
        refine v_load rfl rfl ⟨rfl, Nat.le_of_ble_eq_true rfl⟩ ?_
        refine v_ieq rfl (fun _ => ?_) (fun h => absurd h (by omega))
        refine v_load rfl rfl ⟨rfl, Nat.le_of_ble_eq_true rfl⟩ ?_
        refine v_load rfl rfl ⟨rfl, Nat.le_of_ble_eq_true rfl⟩ ?_
        refine v_ine rfl (fun _ => ?_) (fun h => absurd h (by omega))
        refine v_load rfl rfl ⟨rfl, Nat.le_of_ble_eq_true rfl⟩ ?_
        refine v_push rfl ?_
        refine v_add rfl (by omega) ?_
        refine v_store rfl ⟨rfl, Nat.le_of_ble_eq_true rfl, Nat.le_of_ble_eq_true rfl, rfl⟩ rfl ?_
        refine v_iinc rfl rfl rfl (by omega) rfl ?_
        refine v_goto rfl ?_
        exact ihh
    · have c' : ¬ (nd (NT (toks t)) (j : Int)).1 = so := fun z => c (decide_eq_true z)
      have ihh := ih (j + 1) (by omega) (by omega) (by rw [flt_n c]; exact he)
      rw [flt_n c, show ((j + 1 : Nat) : Int) = (j : Int) + 1 by omega] at ihh
      refine v_load rfl rfl ⟨rfl, Nat.le_of_ble_eq_true rfl⟩ ?_
      refine v_load rfl rfl ⟨rfl, Nat.le_of_ble_eq_true rfl⟩ ?_
      refine v_getx rfl rfl (h44) ?_
      refine v_ige rfl (fun h => absurd h (by omega)) (fun _ => ?_)
      refine v_load rfl rfl ⟨rfl, Nat.le_of_ble_eq_true rfl⟩ ?_
      refine v_getp rfl rfl rfl ?_
      refine v_load rfl rfl ⟨rfl, Nat.le_of_ble_eq_true rfl⟩ ?_
      refine v_ald9 rfl rfl ⟨by omega, by show _ < (1600 : Int); omega⟩ ?_
      rw [g1]
      refine v_load rfl rfl ⟨rfl, Nat.le_of_ble_eq_true rfl⟩ ?_
      refine v_ieq rfl (fun h => absurd h (by omega)) (fun _ => ?_)
      refine v_goto rfl ?_
      refine v_iinc rfl rfl rfl (by omega) rfl ?_
      refine v_goto rfl ?_
      exact ihh
theorem R_isSort {so : Int} (k : Q (some (0, b2i (decide (0 ≤ so ∧ so ≤ 17)))) M) : v_call L (d + 1) 271 [(0, so)] M Q := by
  refine v_in ?_
  refine v_load rfl rfl ⟨rfl, Nat.le_of_ble_eq_true rfl⟩ ?_
  refine v_push rfl ?_
  refine v_push rfl ?_
  refine v_callr rfl ⟨Nat.le_of_ble_eq_true rfl, Nat.le_of_ble_eq_true rfl, rfl, Nat.le_of_ble_eq_true rfl, rfl⟩ ?_
  refine R_in ?_
  first | refine v_ret rfl rfl ?_ | refine v_retz rfl (b2i_01 _) ?_ | refine v_retz rfl (by omega) ?_
  exact k
theorem R_find {so m : Int} (hC : RS s M) (k : Q (some (0, findQ s so m)) M) : v_call L (d + 10) 272 [(2, 77), (0, so), (0, m)] M Q := by
  have hS := hC.1
  unfold findQ at k
  refine v_in ?_
  by_cases c0 : 0 ≤ so ∧ so ≤ 17
  · by_cases c : -1 ≤ m
    · rw [if_pos ⟨c0.1, c0.2, c⟩] at k
      by_cases c1 : m = -1
      · rw [if_pos c1] at k
        have g := hS.2.2.2.2 so (by omega) (by omega)
        refine v_load rfl rfl ⟨rfl, Nat.le_of_ble_eq_true rfl⟩ ?_
        refine v_callr rfl ⟨Nat.le_of_ble_eq_true rfl, Nat.le_of_ble_eq_true rfl, rfl, Nat.le_of_ble_eq_true rfl, rfl⟩ ?_
        refine R_isSort ?_
        rw [b2i_t (decide_eq_true c0)]
        refine v_ifeq rfl (fun h => absurd h (by decide)) (fun _ => ?_)
        refine v_load rfl rfl ⟨rfl, Nat.le_of_ble_eq_true rfl⟩ ?_
        refine v_push rfl ?_
        refine v_ige rfl (fun _ => ?_) (fun h => absurd h (by omega))
        refine v_load rfl rfl ⟨rfl, Nat.le_of_ble_eq_true rfl⟩ ?_
        refine v_push rfl ?_
        refine v_ine rfl (fun h => absurd h (by omega)) (fun _ => ?_)
        refine v_load rfl rfl ⟨rfl, Nat.le_of_ble_eq_true rfl⟩ ?_
        refine v_getp rfl rfl rfl ?_
        refine v_load rfl rfl ⟨rfl, Nat.le_of_ble_eq_true rfl⟩ ?_
        refine v_ald9 rfl rfl ⟨by omega, by show _ < (18 : Int); omega⟩ ?_
        refine v_ret rfl rfl ?_
        rw [g]; exact k
      · rw [if_neg c1] at k
        refine v_load rfl rfl ⟨rfl, Nat.le_of_ble_eq_true rfl⟩ ?_
        refine v_callr rfl ⟨Nat.le_of_ble_eq_true rfl, Nat.le_of_ble_eq_true rfl, rfl, Nat.le_of_ble_eq_true rfl, rfl⟩ ?_
        refine R_isSort ?_
        rw [b2i_t (decide_eq_true c0)]
        refine v_ifeq rfl (fun h => absurd h (by decide)) (fun _ => ?_)
        refine v_load rfl rfl ⟨rfl, Nat.le_of_ble_eq_true rfl⟩ ?_
        refine v_push rfl ?_
        refine v_ige rfl (fun _ => ?_) (fun h => absurd h (by omega))
        refine v_load rfl rfl ⟨rfl, Nat.le_of_ble_eq_true rfl⟩ ?_
        refine v_push rfl ?_
        refine v_ine rfl (fun _ => ?_) (fun h => absurd h (by omega))
        refine v_push rfl ?_
        refine v_store rfl ⟨rfl, Nat.le_of_ble_eq_true rfl, Nat.le_of_ble_eq_true rfl, rfl⟩ rfl ?_
        refine v_push rfl ?_
        refine v_store rfl ⟨rfl, Nat.le_of_ble_eq_true rfl, Nat.le_of_ble_eq_true rfl, rfl⟩ rfl ?_
        exact R_find_loop (d := d + 8) (t := s.1.1) (by omega) hS k _ 0 rfl (Nat.zero_le _) (show ((0 : Nat) : Int) ≤ m by omega)
    · rw [if_neg (by omega)] at k
      refine v_load rfl rfl ⟨rfl, Nat.le_of_ble_eq_true rfl⟩ ?_
      refine v_callr rfl ⟨Nat.le_of_ble_eq_true rfl, Nat.le_of_ble_eq_true rfl, rfl, Nat.le_of_ble_eq_true rfl, rfl⟩ ?_
      refine R_isSort ?_
      rw [b2i_t (decide_eq_true c0)]
      refine v_ifeq rfl (fun h => absurd h (by decide)) (fun _ => ?_)
      refine v_load rfl rfl ⟨rfl, Nat.le_of_ble_eq_true rfl⟩ ?_
      refine v_push rfl ?_
      refine v_ige rfl (fun h => absurd h (by omega)) (fun _ => ?_)
      refine v_push rfl ?_
      refine v_ret rfl rfl ?_
      exact k
  · rw [if_neg (by omega)] at k
    refine v_load rfl rfl ⟨rfl, Nat.le_of_ble_eq_true rfl⟩ ?_
    refine v_callr rfl ⟨Nat.le_of_ble_eq_true rfl, Nat.le_of_ble_eq_true rfl, rfl, Nat.le_of_ble_eq_true rfl, rfl⟩ ?_
    refine R_isSort ?_
    rw [b2i_f (by simpa using c0)]
    refine v_ifeq rfl (fun _ => ?_) (fun h => absurd h (by decide))
    refine v_push rfl ?_
    refine v_ret rfl rfl ?_
    exact k
end Q3
