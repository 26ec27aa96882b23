/-! QUESTIONS: count (the reference), octet, token, tokenAt -/
theorem hdI_first {p : Nat → Bool} {n j : Nat} (hj : j < n) (h0 : flt p j = []) (c : p j = true) : hdI (flt p n) = (j : Int) := by
  obtain ⟨R, e⟩ := flt_pre p (j + 1) (n - (j + 1))
  rw [show j + 1 + (n - (j + 1)) = n by omega] at e
  rw [e, flt_y c, h0]
  rfl
theorem flt_go {p : Nat → Bool} {j : Nat} (h0 : flt p j = []) (c : ¬ p j = true) : flt p (j + 1) = [] := by rw [flt_n c, h0]
section Q2
variable {L d n : Nat} {M : zM} {Q : Option zV → zM → Prop} {s : zA} {t : List Int}
theorem R_count {i : Int} (hC : RS s M) (k : Q (some (0, countQ s i)) M) : v_call L (d + 10) 263 [(2, 77), (0, i)] M Q := by
  obtain ⟨hS, hP, hHp, hHf, hK, -⟩ := id hC
  have hl := hS.1.2.1
  have h44 := (TM_len hS.2.2.1).1
  refine v_in ?_
  unfold countQ at k
  by_cases c : 0 ≤ i ∧ i ≤ 11
  · have : i = 0 ∨ i = 1 ∨ i = 2 ∨ i = 3 ∨ i = 4 ∨ i = 5 ∨ i = 6 ∨ i = 7 ∨ i = 8 ∨ i = 9 ∨ i = 10 ∨ i = 11 := by omega
    rcases this with rfl | rfl | rfl | rfl | rfl | rfl | rfl | rfl | rfl | rfl | rfl | rfl
    · refine v_load rfl rfl ⟨rfl, Nat.le_of_ble_eq_true rfl⟩ ?_
      refine v_tsw rfl ?_
      refine v_load rfl rfl ⟨rfl, Nat.le_of_ble_eq_true rfl⟩ ?_
      refine v_getx rfl rfl (hS.1.1) ?_
      refine v_ret rfl rfl ?_
      exact k
    · refine v_load rfl rfl ⟨rfl, Nat.le_of_ble_eq_true rfl⟩ ?_
      refine v_tsw rfl ?_
      refine v_load rfl rfl ⟨rfl, Nat.le_of_ble_eq_true rfl⟩ ?_
      refine v_getx rfl rfl (hS.2.1.1) ?_
      refine v_ret rfl rfl ?_
      exact k
    · refine v_load rfl rfl ⟨rfl, Nat.le_of_ble_eq_true rfl⟩ ?_
      refine v_tsw rfl ?_
      refine v_load rfl rfl ⟨rfl, Nat.le_of_ble_eq_true rfl⟩ ?_
      refine v_getx rfl rfl (h44) ?_
      refine v_ret rfl rfl ?_
      exact k
    · refine v_load rfl rfl ⟨rfl, Nat.le_of_ble_eq_true rfl⟩ ?_
      refine v_tsw rfl ?_
      refine v_load rfl rfl ⟨rfl, Nat.le_of_ble_eq_true rfl⟩ ?_
      refine v_getp rfl rfl rfl ?_
      refine v_push rfl ?_
      refine v_ald9 rfl rfl ⟨by omega, by show _ < (18 : Int); omega⟩ ?_
      refine v_ret rfl rfl ?_
      rw [hS.2.2.2.2 9 (by decide) (by decide)]
      exact k
    · refine v_load rfl rfl ⟨rfl, Nat.le_of_ble_eq_true rfl⟩ ?_
      refine v_tsw rfl ?_
      refine v_load rfl rfl ⟨rfl, Nat.le_of_ble_eq_true rfl⟩ ?_
      refine v_getp rfl rfl rfl ?_
      refine v_push rfl ?_
      refine v_ald9 rfl rfl ⟨by omega, by show _ < (18 : Int); omega⟩ ?_
      refine v_ret rfl rfl ?_
      rw [hS.2.2.2.2 17 (by decide) (by decide)]
      exact k
    · refine v_load rfl rfl ⟨rfl, Nat.le_of_ble_eq_true rfl⟩ ?_
      refine v_tsw rfl ?_
      refine v_load rfl rfl ⟨rfl, Nat.le_of_ble_eq_true rfl⟩ ?_
      refine v_callr rfl ⟨Nat.le_of_ble_eq_true rfl, Nat.le_of_ble_eq_true rfl, rfl, Nat.le_of_ble_eq_true rfl, rfl⟩ ?_
      refine R_deepest hS ?_
      refine v_ret rfl rfl ?_
      exact k
    · refine v_load rfl rfl ⟨rfl, Nat.le_of_ble_eq_true rfl⟩ ?_
      refine v_tsw rfl ?_
      refine v_load rfl rfl ⟨rfl, Nat.le_of_ble_eq_true rfl⟩ ?_
      refine v_getx rfl rfl (hK.2.2.2.1) ?_
      refine v_ret rfl rfl ?_
      exact k
    · refine v_load rfl rfl ⟨rfl, Nat.le_of_ble_eq_true rfl⟩ ?_
      refine v_tsw rfl ?_
      refine v_load rfl rfl ⟨rfl, Nat.le_of_ble_eq_true rfl⟩ ?_
      refine v_getx rfl rfl (hK.2.2.2.2) ?_
      refine v_ret rfl rfl ?_
      exact k
    · refine v_load rfl rfl ⟨rfl, Nat.le_of_ble_eq_true rfl⟩ ?_
      refine v_tsw rfl ?_
      refine v_load rfl rfl ⟨rfl, Nat.le_of_ble_eq_true rfl⟩ ?_
      refine v_getx rfl rfl (hP.1) ?_
      refine v_ret rfl rfl ?_
      exact k
    · refine v_load rfl rfl ⟨rfl, Nat.le_of_ble_eq_true rfl⟩ ?_
      refine v_tsw rfl ?_
      refine v_load rfl rfl ⟨rfl, Nat.le_of_ble_eq_true rfl⟩ ?_
      refine v_getx rfl rfl (hHp.1) ?_
      refine v_ret rfl rfl ?_
      exact k
    · refine v_load rfl rfl ⟨rfl, Nat.le_of_ble_eq_true rfl⟩ ?_
      refine v_tsw rfl ?_
      refine v_load rfl rfl ⟨rfl, Nat.le_of_ble_eq_true rfl⟩ ?_
      refine v_getx rfl rfl (hHf.1) ?_
      refine v_ret rfl rfl ?_
      exact k
    · refine v_load rfl rfl ⟨rfl, Nat.le_of_ble_eq_true rfl⟩ ?_
      refine v_tsw rfl ?_
      refine v_load rfl rfl ⟨rfl, Nat.le_of_ble_eq_true rfl⟩ ?_
      refine v_getx rfl rfl (hS.2.2.2.1.1) ?_
      refine v_ret rfl rfl ?_
      exact qeq k (by show nlF s.1.1 s.1.1.length + 1 = _; exact (lnsF_len _ _).symm)
  · refine v_load rfl rfl ⟨rfl, Nat.le_of_ble_eq_true rfl⟩ ?_
    refine v_tsw rfl ?_
    rw [z_sw_out _ (by simp only [List.forall_mem_cons, List.not_mem_nil, false_implies, implies_true, and_true]; omega)]
    refine v_push rfl ?_
    refine v_ret rfl rfl ?_
    repeat rw [if_neg (by omega)] at k
    exact k
/-- octet -/
theorem S_octet {i : Int} (hC : CS s M) (k : Q (some (0, tb s.1.1 i)) M) : v_call L (d + 10) 140 [(2, 1), (0, i)] M Q := by
  refine v_in ?_
  refine v_load rfl rfl ⟨rfl, Nat.le_of_ble_eq_true rfl⟩ ?_
  refine v_getp rfl rfl rfl ?_
  refine v_load rfl rfl ⟨rfl, Nat.le_of_ble_eq_true rfl⟩ ?_
  refine v_callr rfl ⟨Nat.le_of_ble_eq_true rfl, Nat.le_of_ble_eq_true rfl, rfl, Nat.le_of_ble_eq_true rfl, rfl⟩ ?_
  refine S_atT z_B2 hC.1 ?_
  refine v_ret rfl rfl ?_
  exact k
theorem R_octet {i : Int} (hC : RS s M) (k : Q (some (0, tb s.1.1 i)) M) : v_call L (d + 10) 264 [(2, 77), (0, i)] M Q := by
  have hX := hC.1.1
  have h4 := hX.1
  have hl := hX.2.1
  refine v_in ?_
  by_cases c : 0 ≤ i ∧ i ≤ (s.1.1.length : Int) - 1
  · have g := RX_at hX (i := i) ⟨by omega, by omega⟩
    refine v_load rfl rfl ⟨rfl, Nat.le_of_ble_eq_true rfl⟩ ?_
    refine v_push rfl ?_
    refine v_load rfl rfl ⟨rfl, Nat.le_of_ble_eq_true rfl⟩ ?_
    refine v_getx rfl rfl (h4) ?_
    refine v_push rfl ?_
    refine v_sub rfl (by omega) ?_
    refine v_callr rfl ⟨Nat.le_of_ble_eq_true rfl, Nat.le_of_ble_eq_true rfl, rfl, Nat.le_of_ble_eq_true rfl, rfl⟩ ?_
    refine R_in ?_
    rw [b2i_t (decide_eq_true c)]
    refine v_ifeq rfl (fun h => absurd h (by decide)) (fun _ => ?_)
    refine v_load rfl rfl ⟨rfl, Nat.le_of_ble_eq_true rfl⟩ ?_
    refine v_getp rfl rfl rfl ?_
    refine v_load rfl rfl ⟨rfl, Nat.le_of_ble_eq_true rfl⟩ ?_
    refine v_ald9 rfl rfl ⟨by omega, by show _ < (300 : Int); omega⟩ ?_
    rw [g]
    refine v_goto rfl ?_
    refine v_ret rfl rfl ?_
    exact k
  · unfold tb at k
    rw [if_neg (by omega)] at k
    refine v_load rfl rfl ⟨rfl, Nat.le_of_ble_eq_true rfl⟩ ?_
    refine v_push rfl ?_
    refine v_load rfl rfl ⟨rfl, Nat.le_of_ble_eq_true rfl⟩ ?_
    refine v_getx rfl rfl (h4) ?_
    refine v_push rfl ?_
    refine v_sub rfl (by omega) ?_
    refine v_callr rfl ⟨Nat.le_of_ble_eq_true rfl, Nat.le_of_ble_eq_true rfl, rfl, Nat.le_of_ble_eq_true rfl, rfl⟩ ?_
    refine R_in ?_
    rw [b2i_f (by simpa using c)]
    refine v_ifeq rfl (fun _ => ?_) (fun h => absurd h (by decide))
    refine v_push rfl ?_
    refine v_ret rfl rfl ?_
    exact k
/-- token -/
noncomputable def tokQ (s : zA) (i f : Int) : Int := if 0 ≤ i ∧ i < ((toks s.1.1).length : Int) then (if f = 0 then (tk (toks s.1.1) i).1 else if f = 1 then (tk (toks s.1.1) i).2.1 else if f = 2 then (tk (toks s.1.1) i).2.2.1 - (tk (toks s.1.1) i).2.1 else if f = 3 then (tk (toks s.1.1) i).2.2.2.1 else if f = 4 then (if s.2.2.1.1 i.toNat = -1 then 0 else 1) else if f = 5 then lf (NT (toks s.1.1)) i else -1) else -1
theorem S_isTokenKept {O : Nat → Int} {i : Int} (hR : RT (toks t) M) (hO : KO O (toks t).length M) (hi : 0 ≤ i ∧ i < ((toks t).length : Int)) (k : Q (some (0, if O i.toNat = -1 then 0 else 1)) M) : v_call L (d + 2) 22 [(2, 62), (0, i)] M Q := by
  refine v_in ?_
  refine v_load rfl rfl ⟨rfl, Nat.le_of_ble_eq_true rfl⟩ ?_
  refine v_load rfl rfl ⟨rfl, Nat.le_of_ble_eq_true rfl⟩ ?_
  refine v_callr rfl ⟨Nat.le_of_ble_eq_true rfl, Nat.le_of_ble_eq_true rfl, rfl, Nat.le_of_ble_eq_true rfl, rfl⟩ ?_
  refine S_originOf hR hO ?_
  rw [if_pos hi]
  refine v_push rfl ?_
  refine v_ieq rfl (fun c1 => ?_) (fun c1 => ?_)
  · refine v_push rfl ?_
    refine v_retz rfl (by first | exact Or.inl rfl | exact Or.inr rfl | exact b2i_01 _ | omega) ?_
    exact qeq k (by split <;> omega)
  · refine v_push rfl ?_
    refine v_goto rfl ?_
    refine v_retz rfl (by first | exact Or.inl rfl | exact Or.inr rfl | exact b2i_01 _ | omega) ?_
    exact qeq k (by split <;> omega)
theorem S_token {i f : Int} (hC : CS s M) (hB : BS s n) (k : Q (some (0, tokQ s i f)) M) : v_call L (d + 10) 141 [(2, 1), (0, i), (0, f)] M Q := by
  obtain ⟨h1, -, -, -, h5, h6, h7, -⟩ := id hC
  have hl := hB.1
  refine v_in ?_
  unfold tokQ at k
  have r := tk_rng (t := s.1.1) i
  by_cases ci : 0 ≤ i ∧ i < ((toks s.1.1).length : Int)
  · rw [if_pos ci] at k
    by_cases c : 0 ≤ f ∧ f ≤ 5
    · have : f = 0 ∨ f = 1 ∨ f = 2 ∨ f = 3 ∨ f = 4 ∨ f = 5 := by omega
      rcases this with rfl | rfl | rfl | rfl | rfl | rfl
      · refine v_load rfl rfl ⟨rfl, Nat.le_of_ble_eq_true rfl⟩ ?_
        refine v_getp rfl rfl rfl ?_
        refine v_load rfl rfl ⟨rfl, Nat.le_of_ble_eq_true rfl⟩ ?_
        refine v_callr rfl ⟨Nat.le_of_ble_eq_true rfl, Nat.le_of_ble_eq_true rfl, rfl, Nat.le_of_ble_eq_true rfl, rfl⟩ ?_
        refine S_tkHas h5 ?_
        rw [if_pos ci]
        refine v_ifne rfl (fun _ => ?_) (fun h => absurd h (by decide))
        refine v_load rfl rfl ⟨rfl, Nat.le_of_ble_eq_true rfl⟩ ?_
        refine v_tsw rfl ?_
        refine v_load rfl rfl ⟨rfl, Nat.le_of_ble_eq_true rfl⟩ ?_
        refine v_getp rfl rfl rfl ?_
        refine v_load rfl rfl ⟨rfl, Nat.le_of_ble_eq_true rfl⟩ ?_
        refine v_callr rfl ⟨Nat.le_of_ble_eq_true rfl, Nat.le_of_ble_eq_true rfl, rfl, Nat.le_of_ble_eq_true rfl, rfl⟩ ?_
        refine S_tkSort h5 ?_
        refine v_ret rfl rfl ?_
        exact k
      · refine v_load rfl rfl ⟨rfl, Nat.le_of_ble_eq_true rfl⟩ ?_
        refine v_getp rfl rfl rfl ?_
        refine v_load rfl rfl ⟨rfl, Nat.le_of_ble_eq_true rfl⟩ ?_
        refine v_callr rfl ⟨Nat.le_of_ble_eq_true rfl, Nat.le_of_ble_eq_true rfl, rfl, Nat.le_of_ble_eq_true rfl, rfl⟩ ?_
        refine S_tkHas h5 ?_
        rw [if_pos ci]
        refine v_ifne rfl (fun _ => ?_) (fun h => absurd h (by decide))
        refine v_load rfl rfl ⟨rfl, Nat.le_of_ble_eq_true rfl⟩ ?_
        refine v_tsw rfl ?_
        refine v_load rfl rfl ⟨rfl, Nat.le_of_ble_eq_true rfl⟩ ?_
        refine v_getp rfl rfl rfl ?_
        refine v_load rfl rfl ⟨rfl, Nat.le_of_ble_eq_true rfl⟩ ?_
        refine v_callr rfl ⟨Nat.le_of_ble_eq_true rfl, Nat.le_of_ble_eq_true rfl, rfl, Nat.le_of_ble_eq_true rfl, rfl⟩ ?_
        refine S_tkFirst h5 ?_
        refine v_ret rfl rfl ?_
        exact k
      · refine v_load rfl rfl ⟨rfl, Nat.le_of_ble_eq_true rfl⟩ ?_
        refine v_getp rfl rfl rfl ?_
        refine v_load rfl rfl ⟨rfl, Nat.le_of_ble_eq_true rfl⟩ ?_
        refine v_callr rfl ⟨Nat.le_of_ble_eq_true rfl, Nat.le_of_ble_eq_true rfl, rfl, Nat.le_of_ble_eq_true rfl, rfl⟩ ?_
        refine S_tkHas h5 ?_
        rw [if_pos ci]
        refine v_ifne rfl (fun _ => ?_) (fun h => absurd h (by decide))
        refine v_load rfl rfl ⟨rfl, Nat.le_of_ble_eq_true rfl⟩ ?_
        refine v_tsw rfl ?_
        refine v_load rfl rfl ⟨rfl, Nat.le_of_ble_eq_true rfl⟩ ?_
        refine v_getp rfl rfl rfl ?_
        refine v_load rfl rfl ⟨rfl, Nat.le_of_ble_eq_true rfl⟩ ?_
        refine v_callr rfl ⟨Nat.le_of_ble_eq_true rfl, Nat.le_of_ble_eq_true rfl, rfl, Nat.le_of_ble_eq_true rfl, rfl⟩ ?_
        refine S_tkEnd h5 ?_
        refine v_load rfl rfl ⟨rfl, Nat.le_of_ble_eq_true rfl⟩ ?_
        refine v_getp rfl rfl rfl ?_
        refine v_load rfl rfl ⟨rfl, Nat.le_of_ble_eq_true rfl⟩ ?_
        refine v_callr rfl ⟨Nat.le_of_ble_eq_true rfl, Nat.le_of_ble_eq_true rfl, rfl, Nat.le_of_ble_eq_true rfl, rfl⟩ ?_
        refine S_tkFirst h5 ?_
        refine v_sub rfl (by omega) ?_
        refine v_ret rfl rfl ?_
        exact k
      · refine v_load rfl rfl ⟨rfl, Nat.le_of_ble_eq_true rfl⟩ ?_
        refine v_getp rfl rfl rfl ?_
        refine v_load rfl rfl ⟨rfl, Nat.le_of_ble_eq_true rfl⟩ ?_
        refine v_callr rfl ⟨Nat.le_of_ble_eq_true rfl, Nat.le_of_ble_eq_true rfl, rfl, Nat.le_of_ble_eq_true rfl, rfl⟩ ?_
        refine S_tkHas h5 ?_
        rw [if_pos ci]
        refine v_ifne rfl (fun _ => ?_) (fun h => absurd h (by decide))
        refine v_load rfl rfl ⟨rfl, Nat.le_of_ble_eq_true rfl⟩ ?_
        refine v_tsw rfl ?_
        refine v_load rfl rfl ⟨rfl, Nat.le_of_ble_eq_true rfl⟩ ?_
        refine v_getp rfl rfl rfl ?_
        refine v_load rfl rfl ⟨rfl, Nat.le_of_ble_eq_true rfl⟩ ?_
        refine v_callr rfl ⟨Nat.le_of_ble_eq_true rfl, Nat.le_of_ble_eq_true rfl, rfl, Nat.le_of_ble_eq_true rfl, rfl⟩ ?_
        refine S_tkRead h5 ?_
        refine v_ret rfl rfl ?_
        exact k
      · by_cases co : s.2.2.1.1 i.toNat = -1
        · refine v_load rfl rfl ⟨rfl, Nat.le_of_ble_eq_true rfl⟩ ?_
          refine v_getp rfl rfl rfl ?_
          refine v_load rfl rfl ⟨rfl, Nat.le_of_ble_eq_true rfl⟩ ?_
          refine v_callr rfl ⟨Nat.le_of_ble_eq_true rfl, Nat.le_of_ble_eq_true rfl, rfl, Nat.le_of_ble_eq_true rfl, rfl⟩ ?_
          refine S_tkHas h5 ?_
          rw [if_pos ci]
          refine v_ifne rfl (fun _ => ?_) (fun h => absurd h (by decide))
          refine v_load rfl rfl ⟨rfl, Nat.le_of_ble_eq_true rfl⟩ ?_
          refine v_tsw rfl ?_
          refine v_load rfl rfl ⟨rfl, Nat.le_of_ble_eq_true rfl⟩ ?_
          refine v_getp rfl rfl rfl ?_
          refine v_load rfl rfl ⟨rfl, Nat.le_of_ble_eq_true rfl⟩ ?_
          refine v_callr rfl ⟨Nat.le_of_ble_eq_true rfl, Nat.le_of_ble_eq_true rfl, rfl, Nat.le_of_ble_eq_true rfl, rfl⟩ ?_
          refine S_isTokenKept h5 h7.1 ci ?_
          rw [if_pos co]
          refine v_ifeq rfl (fun _ => ?_) (fun h => absurd h (by decide))
          refine v_push rfl ?_
          refine v_ret rfl rfl ?_
          exact qeq k (by show (if _ then (0 : Int) else 1) = _; rw [if_pos co])
        · refine v_load rfl rfl ⟨rfl, Nat.le_of_ble_eq_true rfl⟩ ?_
          refine v_getp rfl rfl rfl ?_
          refine v_load rfl rfl ⟨rfl, Nat.le_of_ble_eq_true rfl⟩ ?_
          refine v_callr rfl ⟨Nat.le_of_ble_eq_true rfl, Nat.le_of_ble_eq_true rfl, rfl, Nat.le_of_ble_eq_true rfl, rfl⟩ ?_
          refine S_tkHas h5 ?_
          rw [if_pos ci]
          refine v_ifne rfl (fun _ => ?_) (fun h => absurd h (by decide))
          refine v_load rfl rfl ⟨rfl, Nat.le_of_ble_eq_true rfl⟩ ?_
          refine v_tsw rfl ?_
          refine v_load rfl rfl ⟨rfl, Nat.le_of_ble_eq_true rfl⟩ ?_
          refine v_getp rfl rfl rfl ?_
          refine v_load rfl rfl ⟨rfl, Nat.le_of_ble_eq_true rfl⟩ ?_
          refine v_callr rfl ⟨Nat.le_of_ble_eq_true rfl, Nat.le_of_ble_eq_true rfl, rfl, Nat.le_of_ble_eq_true rfl, rfl⟩ ?_
          refine S_isTokenKept h5 h7.1 ci ?_
          rw [if_neg co]
          refine v_ifeq rfl (fun h => absurd h (by decide)) (fun _ => ?_)
          refine v_push rfl ?_
          refine v_goto rfl ?_
          refine v_ret rfl rfl ?_
          exact qeq k (by show (if _ then (0 : Int) else 1) = _; rw [if_neg co])
      · refine v_load rfl rfl ⟨rfl, Nat.le_of_ble_eq_true rfl⟩ ?_
        refine v_getp rfl rfl rfl ?_
        refine v_load rfl rfl ⟨rfl, Nat.le_of_ble_eq_true rfl⟩ ?_
        refine v_callr rfl ⟨Nat.le_of_ble_eq_true rfl, Nat.le_of_ble_eq_true rfl, rfl, Nat.le_of_ble_eq_true rfl, rfl⟩ ?_
        refine S_tkHas h5 ?_
        rw [if_pos ci]
        refine v_ifne rfl (fun _ => ?_) (fun h => absurd h (by decide))
        refine v_load rfl rfl ⟨rfl, Nat.le_of_ble_eq_true rfl⟩ ?_
        refine v_tsw rfl ?_
        refine v_load rfl rfl ⟨rfl, Nat.le_of_ble_eq_true rfl⟩ ?_
        refine v_getp rfl rfl rfl ?_
        refine v_load rfl rfl ⟨rfl, Nat.le_of_ble_eq_true rfl⟩ ?_
        refine v_callr rfl ⟨Nat.le_of_ble_eq_true rfl, Nat.le_of_ble_eq_true rfl, rfl, Nat.le_of_ble_eq_true rfl, rfl⟩ ?_
        refine S_leafOf h5 h6 hl ?_
        rw [if_pos ci]
        refine v_ret rfl rfl ?_
        exact k
    · refine v_load rfl rfl ⟨rfl, Nat.le_of_ble_eq_true rfl⟩ ?_
      refine v_getp rfl rfl rfl ?_
      refine v_load rfl rfl ⟨rfl, Nat.le_of_ble_eq_true rfl⟩ ?_
      refine v_callr rfl ⟨Nat.le_of_ble_eq_true rfl, Nat.le_of_ble_eq_true rfl, rfl, Nat.le_of_ble_eq_true rfl, rfl⟩ ?_
      refine S_tkHas h5 ?_
      rw [if_pos ci]
      refine v_ifne rfl (fun _ => ?_) (fun h => absurd h (by decide))
      refine v_load rfl rfl ⟨rfl, Nat.le_of_ble_eq_true rfl⟩ ?_
      refine v_tsw rfl ?_
      rw [z_sw_out _ (by simp only [List.forall_mem_cons, List.not_mem_nil, false_implies, implies_true, and_true]; omega)]
      refine v_push rfl ?_
      refine v_ret rfl rfl ?_
      repeat rw [if_neg (by omega)] at k
      exact k
  · rw [if_neg ci] at k
    refine v_load rfl rfl ⟨rfl, Nat.le_of_ble_eq_true rfl⟩ ?_
    refine v_getp rfl rfl rfl ?_
    refine v_load rfl rfl ⟨rfl, Nat.le_of_ble_eq_true rfl⟩ ?_
    refine v_callr rfl ⟨Nat.le_of_ble_eq_true rfl, Nat.le_of_ble_eq_true rfl, rfl, Nat.le_of_ble_eq_true rfl, rfl⟩ ?_
    refine S_tkHas h5 ?_
    rw [if_neg ci]
    refine v_ifne rfl (fun h => absurd h (by decide)) (fun _ => ?_)
    refine v_push rfl ?_
    refine v_ret rfl rfl ?_
    exact k
theorem R_token {i f : Int} (hC : RS s M) (k : Q (some (0, tokQ s i f)) M) : v_call L (d + 10) 265 [(2, 77), (0, i), (0, f)] M Q := by
  obtain ⟨hS, -, -, -, hK, -⟩ := id hC
  have h10 := hS.2.1.1
  have hl := hS.2.1.2.1
  refine v_in ?_
  unfold tokQ at k
  by_cases ci : 0 ≤ i ∧ i < ((toks s.1.1).length : Int)
  · rw [if_pos ci] at k
    have ci' : 0 ≤ i ∧ i ≤ ((toks s.1.1).length : Int) - 1 := ⟨ci.1, by omega⟩
    obtain ⟨g1, g2, g3, g4⟩ := RR_at hS.2.1 ci
    have g5 := hK.1 i.toNat (by omega)
    rw [show ((i.toNat : Nat) : Int) = i by omega] at g5
    have g6 := hS.2.2.1.2.2 i ci.1 ci.2
    by_cases c : 0 ≤ f ∧ f ≤ 5
    · have : f = 0 ∨ f = 1 ∨ f = 2 ∨ f = 3 ∨ f = 4 ∨ f = 5 := by omega
      rcases this with rfl | rfl | rfl | rfl | rfl | rfl
      · refine v_load rfl rfl ⟨rfl, Nat.le_of_ble_eq_true rfl⟩ ?_
        refine v_push rfl ?_
        refine v_load rfl rfl ⟨rfl, Nat.le_of_ble_eq_true rfl⟩ ?_
        refine v_getx rfl rfl (h10) ?_
        refine v_push rfl ?_
        refine v_sub rfl (by omega) ?_
        refine v_callr rfl ⟨Nat.le_of_ble_eq_true rfl, Nat.le_of_ble_eq_true rfl, rfl, Nat.le_of_ble_eq_true rfl, rfl⟩ ?_
        refine R_in ?_
        rw [b2i_t (decide_eq_true ci')]
        refine v_ifne rfl (fun _ => ?_) (fun h => absurd h (by decide))
        refine v_load rfl rfl ⟨rfl, Nat.le_of_ble_eq_true rfl⟩ ?_
        refine v_tsw rfl ?_
        refine v_load rfl rfl ⟨rfl, Nat.le_of_ble_eq_true rfl⟩ ?_
        refine v_getp rfl rfl rfl ?_
        refine v_load rfl rfl ⟨rfl, Nat.le_of_ble_eq_true rfl⟩ ?_
        refine v_ald9 rfl rfl ⟨by omega, by show _ < (300 : Int); omega⟩ ?_
        refine v_ret rfl rfl ?_
        rw [g1]
        exact k
      · refine v_load rfl rfl ⟨rfl, Nat.le_of_ble_eq_true rfl⟩ ?_
        refine v_push rfl ?_
        refine v_load rfl rfl ⟨rfl, Nat.le_of_ble_eq_true rfl⟩ ?_
        refine v_getx rfl rfl (h10) ?_
        refine v_push rfl ?_
        refine v_sub rfl (by omega) ?_
        refine v_callr rfl ⟨Nat.le_of_ble_eq_true rfl, Nat.le_of_ble_eq_true rfl, rfl, Nat.le_of_ble_eq_true rfl, rfl⟩ ?_
        refine R_in ?_
        rw [b2i_t (decide_eq_true ci')]
        refine v_ifne rfl (fun _ => ?_) (fun h => absurd h (by decide))
        refine v_load rfl rfl ⟨rfl, Nat.le_of_ble_eq_true rfl⟩ ?_
        refine v_tsw rfl ?_
        refine v_load rfl rfl ⟨rfl, Nat.le_of_ble_eq_true rfl⟩ ?_
        refine v_getp rfl rfl rfl ?_
        refine v_load rfl rfl ⟨rfl, Nat.le_of_ble_eq_true rfl⟩ ?_
        refine v_ald9 rfl rfl ⟨by omega, by show _ < (300 : Int); omega⟩ ?_
        refine v_ret rfl rfl ?_
        rw [g2]
        exact k
      · refine v_load rfl rfl ⟨rfl, Nat.le_of_ble_eq_true rfl⟩ ?_
        refine v_push rfl ?_
        refine v_load rfl rfl ⟨rfl, Nat.le_of_ble_eq_true rfl⟩ ?_
        refine v_getx rfl rfl (h10) ?_
        refine v_push rfl ?_
        refine v_sub rfl (by omega) ?_
        refine v_callr rfl ⟨Nat.le_of_ble_eq_true rfl, Nat.le_of_ble_eq_true rfl, rfl, Nat.le_of_ble_eq_true rfl, rfl⟩ ?_
        refine R_in ?_
        rw [b2i_t (decide_eq_true ci')]
        refine v_ifne rfl (fun _ => ?_) (fun h => absurd h (by decide))
        refine v_load rfl rfl ⟨rfl, Nat.le_of_ble_eq_true rfl⟩ ?_
        refine v_tsw rfl ?_
        refine v_load rfl rfl ⟨rfl, Nat.le_of_ble_eq_true rfl⟩ ?_
        refine v_getp rfl rfl rfl ?_
        refine v_load rfl rfl ⟨rfl, Nat.le_of_ble_eq_true rfl⟩ ?_
        refine v_ald9 rfl rfl ⟨by omega, by show _ < (300 : Int); omega⟩ ?_
        refine v_ret rfl rfl ?_
        rw [g3]
        exact k
      · refine v_load rfl rfl ⟨rfl, Nat.le_of_ble_eq_true rfl⟩ ?_
        refine v_push rfl ?_
        refine v_load rfl rfl ⟨rfl, Nat.le_of_ble_eq_true rfl⟩ ?_
        refine v_getx rfl rfl (h10) ?_
        refine v_push rfl ?_
        refine v_sub rfl (by omega) ?_
        refine v_callr rfl ⟨Nat.le_of_ble_eq_true rfl, Nat.le_of_ble_eq_true rfl, rfl, Nat.le_of_ble_eq_true rfl, rfl⟩ ?_
        refine R_in ?_
        rw [b2i_t (decide_eq_true ci')]
        refine v_ifne rfl (fun _ => ?_) (fun h => absurd h (by decide))
        refine v_load rfl rfl ⟨rfl, Nat.le_of_ble_eq_true rfl⟩ ?_
        refine v_tsw rfl ?_
        refine v_load rfl rfl ⟨rfl, Nat.le_of_ble_eq_true rfl⟩ ?_
        refine v_getp rfl rfl rfl ?_
        refine v_load rfl rfl ⟨rfl, Nat.le_of_ble_eq_true rfl⟩ ?_
        refine v_ald9 rfl rfl ⟨by omega, by show _ < (300 : Int); omega⟩ ?_
        refine v_ret rfl rfl ?_
        rw [g4]
        exact k
      · by_cases co : s.2.2.1.1 i.toNat = -1
        · refine v_load rfl rfl ⟨rfl, Nat.le_of_ble_eq_true rfl⟩ ?_
          refine v_push rfl ?_
          refine v_load rfl rfl ⟨rfl, Nat.le_of_ble_eq_true rfl⟩ ?_
          refine v_getx rfl rfl (h10) ?_
          refine v_push rfl ?_
          refine v_sub rfl (by omega) ?_
          refine v_callr rfl ⟨Nat.le_of_ble_eq_true rfl, Nat.le_of_ble_eq_true rfl, rfl, Nat.le_of_ble_eq_true rfl, rfl⟩ ?_
          refine R_in ?_
          rw [b2i_t (decide_eq_true ci')]
          refine v_ifne rfl (fun _ => ?_) (fun h => absurd h (by decide))
          refine v_load rfl rfl ⟨rfl, Nat.le_of_ble_eq_true rfl⟩ ?_
          refine v_tsw rfl ?_
          refine v_load rfl rfl ⟨rfl, Nat.le_of_ble_eq_true rfl⟩ ?_
          refine v_getp rfl rfl rfl ?_
          refine v_load rfl rfl ⟨rfl, Nat.le_of_ble_eq_true rfl⟩ ?_
          refine v_ald9 rfl rfl ⟨by omega, by show _ < (300 : Int); omega⟩ ?_
          rw [g5]
          refine v_push rfl ?_
          refine v_ine rfl (fun h => absurd h (fun z => z co)) (fun _ => ?_)
          refine v_push rfl ?_
          refine v_goto rfl ?_
          refine v_ret rfl rfl ?_
          exact qeq k (by show (if _ then (0 : Int) else 1) = _; rw [if_pos co])
        · refine v_load rfl rfl ⟨rfl, Nat.le_of_ble_eq_true rfl⟩ ?_
          refine v_push rfl ?_
          refine v_load rfl rfl ⟨rfl, Nat.le_of_ble_eq_true rfl⟩ ?_
          refine v_getx rfl rfl (h10) ?_
          refine v_push rfl ?_
          refine v_sub rfl (by omega) ?_
          refine v_callr rfl ⟨Nat.le_of_ble_eq_true rfl, Nat.le_of_ble_eq_true rfl, rfl, Nat.le_of_ble_eq_true rfl, rfl⟩ ?_
          refine R_in ?_
          rw [b2i_t (decide_eq_true ci')]
          refine v_ifne rfl (fun _ => ?_) (fun h => absurd h (by decide))
          refine v_load rfl rfl ⟨rfl, Nat.le_of_ble_eq_true rfl⟩ ?_
          refine v_tsw rfl ?_
          refine v_load rfl rfl ⟨rfl, Nat.le_of_ble_eq_true rfl⟩ ?_
          refine v_getp rfl rfl rfl ?_
          refine v_load rfl rfl ⟨rfl, Nat.le_of_ble_eq_true rfl⟩ ?_
          refine v_ald9 rfl rfl ⟨by omega, by show _ < (300 : Int); omega⟩ ?_
          rw [g5]
          refine v_push rfl ?_
          refine v_ine rfl (fun _ => ?_) (fun h => absurd h (co))
          refine v_push rfl ?_
          refine v_ret rfl rfl ?_
          exact qeq k (by show (if _ then (0 : Int) else 1) = _; rw [if_neg co])
      · refine v_load rfl rfl ⟨rfl, Nat.le_of_ble_eq_true rfl⟩ ?_
        refine v_push rfl ?_
        refine v_load rfl rfl ⟨rfl, Nat.le_of_ble_eq_true rfl⟩ ?_
        refine v_getx rfl rfl (h10) ?_
        refine v_push rfl ?_
        refine v_sub rfl (by omega) ?_
        refine v_callr rfl ⟨Nat.le_of_ble_eq_true rfl, Nat.le_of_ble_eq_true rfl, rfl, Nat.le_of_ble_eq_true rfl, rfl⟩ ?_
        refine R_in ?_
        rw [b2i_t (decide_eq_true ci')]
        refine v_ifne rfl (fun _ => ?_) (fun h => absurd h (by decide))
        refine v_load rfl rfl ⟨rfl, Nat.le_of_ble_eq_true rfl⟩ ?_
        refine v_tsw rfl ?_
        refine v_load rfl rfl ⟨rfl, Nat.le_of_ble_eq_true rfl⟩ ?_
        refine v_getp rfl rfl rfl ?_
        refine v_load rfl rfl ⟨rfl, Nat.le_of_ble_eq_true rfl⟩ ?_
        refine v_ald9 rfl rfl ⟨by omega, by show _ < (300 : Int); omega⟩ ?_
        refine v_ret rfl rfl ?_
        rw [g6]
        exact k
    · refine v_load rfl rfl ⟨rfl, Nat.le_of_ble_eq_true rfl⟩ ?_
      refine v_push rfl ?_
      refine v_load rfl rfl ⟨rfl, Nat.le_of_ble_eq_true rfl⟩ ?_
      refine v_getx rfl rfl (h10) ?_
      refine v_push rfl ?_
      refine v_sub rfl (by omega) ?_
      refine v_callr rfl ⟨Nat.le_of_ble_eq_true rfl, Nat.le_of_ble_eq_true rfl, rfl, Nat.le_of_ble_eq_true rfl, rfl⟩ ?_
      refine R_in ?_
      rw [b2i_t (decide_eq_true ci')]
      refine v_ifne rfl (fun _ => ?_) (fun h => absurd h (by decide))
      refine v_load rfl rfl ⟨rfl, Nat.le_of_ble_eq_true rfl⟩ ?_
      refine v_tsw rfl ?_
      rw [z_sw_out _ (by simp only [List.forall_mem_cons, List.not_mem_nil, false_implies, implies_true, and_true]; omega)]
      refine v_push rfl ?_
      refine v_ret rfl rfl ?_
      repeat rw [if_neg (by omega)] at k
      exact k
  · rw [if_neg ci] at k
    refine v_load rfl rfl ⟨rfl, Nat.le_of_ble_eq_true rfl⟩ ?_
    refine v_push rfl ?_
    refine v_load rfl rfl ⟨rfl, Nat.le_of_ble_eq_true rfl⟩ ?_
    refine v_getx rfl rfl (h10) ?_
    refine v_push rfl ?_
    refine v_sub rfl (by omega) ?_
    refine v_callr rfl ⟨Nat.le_of_ble_eq_true rfl, Nat.le_of_ble_eq_true rfl, rfl, Nat.le_of_ble_eq_true rfl, rfl⟩ ?_
    refine R_in ?_
    rw [b2i_f (by simp only [decide_eq_true_eq]; omega)]
    refine v_ifne rfl (fun h => absurd h (by decide)) (fun _ => ?_)
    refine v_push rfl ?_
    refine v_ret rfl rfl ?_
    exact k
/-- which token holds a byte -/
def hdP (t : List Int) (p : Int) (j : Nat) : Bool := decide ((tk (toks t) (j : Int)).2.1 ≤ p ∧ p < (tk (toks t) (j : Int)).2.2.1)
noncomputable def hld (t : List Int) (p : Int) : Int := hdI (flt (hdP t p) (toks t).length)
theorem S_hold_loop {p : Int} (hR : RT (toks t) M) (k : Q (some (0, hld t p)) M) : ∀ (n j : Nat), n = (toks t).length - j → j ≤ (toks t).length → flt (hdP t p) j = [] → v_wp L (d + 2) 70 2 [(2, 36), (0, p), (0, (j : Int))] [] M Q := by
  intro n
  have hl : (toks t).length ≤ 300 := hR.2.1
  have h0 := hR.1
  induction n with
  | zero =>
    intro j hn hj he
    have ej : j = (toks t).length := by omega
    subst ej
    unfold hld at k
    rw [he] at k
    refine v_load rfl rfl ⟨rfl, Nat.le_of_ble_eq_true rfl⟩ ?_
    refine v_load rfl rfl ⟨rfl, Nat.le_of_ble_eq_true rfl⟩ ?_
    refine v_getx rfl rfl (h0) ?_
    refine v_ige rfl (fun _ => ?_) (fun h => absurd h (by omega))
    refine v_push rfl ?_
    refine v_ret rfl rfl ?_
    exact k
  | succ n ih =>
    intro j hn hj he
    by_cases c : hdP t p j = true
    · have c' := of_decide_eq_true c
      unfold hld at k
      rw [hdI_first (by omega) he c] at k
      refine v_load rfl rfl ⟨rfl, Nat.le_of_ble_eq_true rfl⟩ ?_
      refine v_load rfl rfl ⟨rfl, Nat.le_of_ble_eq_true rfl⟩ ?_
      refine v_getx rfl rfl (h0) ?_
      refine v_ige rfl (fun h => absurd h (by omega)) (fun _ => ?_)
      refine v_load rfl rfl ⟨rfl, Nat.le_of_ble_eq_true rfl⟩ ?_
      refine v_load rfl rfl ⟨rfl, Nat.le_of_ble_eq_true rfl⟩ ?_
      refine v_callr rfl ⟨Nat.le_of_ble_eq_true rfl, Nat.le_of_ble_eq_true rfl, rfl, Nat.le_of_ble_eq_true rfl, rfl⟩ ?_
      refine S_tkFirst hR ?_
      refine v_load rfl rfl ⟨rfl, Nat.le_of_ble_eq_true rfl⟩ ?_
      refine v_igt rfl (fun h => absurd h (by omega)) (fun _ => ?_)
      refine v_load rfl rfl ⟨rfl, Nat.le_of_ble_eq_true rfl⟩ ?_
      refine v_load rfl rfl ⟨rfl, Nat.le_of_ble_eq_true rfl⟩ ?_
      refine v_load rfl rfl ⟨rfl, Nat.le_of_ble_eq_true rfl⟩ ?_
      refine v_callr rfl ⟨Nat.le_of_ble_eq_true rfl, Nat.le_of_ble_eq_true rfl, rfl, Nat.le_of_ble_eq_true rfl, rfl⟩ ?_
      refine S_tkEnd hR ?_
      refine v_ige rfl (fun h => absurd h (by omega)) (fun _ => ?_)
      refine v_load rfl rfl ⟨rfl, Nat.le_of_ble_eq_true rfl⟩ ?_
      refine v_ret rfl rfl ?_
      exact k
    · have c' : ¬ ((tk (toks t) (j : Int)).2.1 ≤ p ∧ p < (tk (toks t) (j : Int)).2.2.1) := fun z => c (decide_eq_true z)
      have ihh := ih (j + 1) (by omega) (by omega) (flt_go he c)
      rw [show ((j + 1 : Nat) : Int) = (j : Int) + 1 by omega] at ihh
      refine v_load rfl rfl ⟨rfl, Nat.le_of_ble_eq_true rfl⟩ ?_
      refine v_load rfl rfl ⟨rfl, Nat.le_of_ble_eq_true rfl⟩ ?_
      refine v_getx rfl rfl (h0) ?_
      refine v_ige rfl (fun h => absurd h (by omega)) (fun _ => ?_)
      refine v_load rfl rfl ⟨rfl, Nat.le_of_ble_eq_true rfl⟩ ?_
      refine v_load rfl rfl ⟨rfl, Nat.le_of_ble_eq_true rfl⟩ ?_
      refine v_callr rfl ⟨Nat.le_of_ble_eq_true rfl, Nat.le_of_ble_eq_true rfl, rfl, Nat.le_of_ble_eq_true rfl, rfl⟩ ?_
      refine S_tkFirst hR ?_
      refine v_load rfl rfl ⟨rfl, Nat.le_of_ble_eq_true rfl⟩ ?_
      refine v_igt rfl (fun c1 => ?_) (fun c1 => ?_)
      · refine v_iinc rfl rfl rfl (by omega) rfl ?_
        refine v_goto rfl ?_
        exact ihh
      · refine v_load rfl rfl ⟨rfl, Nat.le_of_ble_eq_true rfl⟩ ?_
        refine v_load rfl rfl ⟨rfl, Nat.le_of_ble_eq_true rfl⟩ ?_
        refine v_load rfl rfl ⟨rfl, Nat.le_of_ble_eq_true rfl⟩ ?_
        refine v_callr rfl ⟨Nat.le_of_ble_eq_true rfl, Nat.le_of_ble_eq_true rfl, rfl, Nat.le_of_ble_eq_true rfl, rfl⟩ ?_
        refine S_tkEnd hR ?_
        refine v_ige rfl (fun _ => ?_) (fun h => absurd h (by omega))
        refine v_iinc rfl rfl rfl (by omega) rfl ?_
        refine v_goto rfl ?_
        exact ihh
theorem S_holding {p : Int} (hR : RT (toks t) M) (k : Q (some (0, hld t p)) M) : v_call L (d + 2) 70 [(2, 36), (0, p)] M Q := by
  refine v_in ?_
  refine v_push rfl ?_
  refine v_store rfl ⟨rfl, Nat.le_of_ble_eq_true rfl, Nat.le_of_ble_eq_true rfl, rfl⟩ rfl ?_
  exact S_hold_loop hR k _ 0 rfl (Nat.zero_le _) rfl
theorem R_with_loop {p : Int} (hS : RSt t M) (k : Q (some (0, if hld t p = -1 then -2 else hld t p)) M) : ∀ (n j : Nat), n = (toks t).length - j → j ≤ (toks t).length → flt (hdP t p) j = [] → v_wp L (d + 2) 266 2 [(2, 77), (0, p), (0, (j : Int))] [] M Q := by
  intro n
  have hR := hS.2.1
  have hl : (toks t).length ≤ 300 := hR.2.1
  have hlt := hS.1.2.1
  have h10 := hR.1
  induction n with
  | zero =>
    intro j hn hj he
    have ej : j = (toks t).length := by omega
    subst ej
    unfold hld at k
    rw [he] at k
    refine v_load rfl rfl ⟨rfl, Nat.le_of_ble_eq_true rfl⟩ ?_
    refine v_load rfl rfl ⟨rfl, Nat.le_of_ble_eq_true rfl⟩ ?_
    refine v_getx rfl rfl (h10) ?_
    refine v_ige rfl (fun _ => ?_) (fun h => absurd h (by omega))
    refine v_push rfl ?_
    refine v_ret rfl rfl ?_
    exact k
  | succ n ih =>
    intro j hn hj he
    have g2 := (RR_at hR (i := (j : Int)) ⟨by omega, by omega⟩).2.1
    have r := tk_rng (t := t) (j : Int)
    by_cases c : hdP t p j = true
    · have c' := of_decide_eq_true c
      unfold hld at k
      rw [hdI_first (by omega) he c, if_neg (by omega)] at k
      refine v_load rfl rfl ⟨rfl, Nat.le_of_ble_eq_true rfl⟩ ?_
      refine v_load rfl rfl ⟨rfl, Nat.le_of_ble_eq_true rfl⟩ ?_
      refine v_getx rfl rfl (h10) ?_
      refine v_ige rfl (fun h => absurd h (by omega)) (fun _ => ?_)
      refine v_load rfl rfl ⟨rfl, Nat.le_of_ble_eq_true rfl⟩ ?_
      refine v_load rfl rfl ⟨rfl, Nat.le_of_ble_eq_true rfl⟩ ?_
      refine v_getp rfl rfl rfl ?_
      refine v_load rfl rfl ⟨rfl, Nat.le_of_ble_eq_true rfl⟩ ?_
      refine v_ald9 rfl rfl ⟨by omega, by show _ < (300 : Int); omega⟩ ?_
      rw [g2]
      refine v_ilt rfl (fun h => absurd h (by omega)) (fun _ => ?_)
      refine v_load rfl rfl ⟨rfl, Nat.le_of_ble_eq_true rfl⟩ ?_
      refine v_load rfl rfl ⟨rfl, Nat.le_of_ble_eq_true rfl⟩ ?_
      refine v_load rfl rfl ⟨rfl, Nat.le_of_ble_eq_true rfl⟩ ?_
      refine v_callr rfl ⟨Nat.le_of_ble_eq_true rfl, Nat.le_of_ble_eq_true rfl, rfl, Nat.le_of_ble_eq_true rfl, rfl⟩ ?_
      refine R_tokenEnd hR ⟨by omega, by omega⟩ ⟨by omega, by omega, by omega⟩ ?_
      refine v_ige rfl (fun h => absurd h (by omega)) (fun _ => ?_)
      refine v_load rfl rfl ⟨rfl, Nat.le_of_ble_eq_true rfl⟩ ?_
      refine v_ret rfl rfl ?_
      exact k
    · have c' : ¬ ((tk (toks t) (j : Int)).2.1 ≤ p ∧ p < (tk (toks t) (j : Int)).2.2.1) := fun z => c (decide_eq_true z)
      have ihh := ih (j + 1) (by omega) (by omega) (flt_go he c)
      rw [show ((j + 1 : Nat) : Int) = (j : Int) + 1 by omega] at ihh
      refine v_load rfl rfl ⟨rfl, Nat.le_of_ble_eq_true rfl⟩ ?_
      refine v_load rfl rfl ⟨rfl, Nat.le_of_ble_eq_true rfl⟩ ?_
      refine v_getx rfl rfl (h10) ?_
      refine v_ige rfl (fun h => absurd h (by omega)) (fun _ => ?_)
      refine v_load rfl rfl ⟨rfl, Nat.le_of_ble_eq_true rfl⟩ ?_
      refine v_load rfl rfl ⟨rfl, Nat.le_of_ble_eq_true rfl⟩ ?_
      refine v_getp rfl rfl rfl ?_
      refine v_load rfl rfl ⟨rfl, Nat.le_of_ble_eq_true rfl⟩ ?_
      refine v_ald9 rfl rfl ⟨by omega, by show _ < (300 : Int); omega⟩ ?_
      rw [g2]
      refine v_ilt rfl (fun c1 => ?_) (fun c1 => ?_)
      · refine v_iinc rfl rfl rfl (by omega) rfl ?_
        refine v_goto rfl ?_
        exact ihh
      · refine v_load rfl rfl ⟨rfl, Nat.le_of_ble_eq_true rfl⟩ ?_
        refine v_load rfl rfl ⟨rfl, Nat.le_of_ble_eq_true rfl⟩ ?_
        refine v_load rfl rfl ⟨rfl, Nat.le_of_ble_eq_true rfl⟩ ?_
        refine v_callr rfl ⟨Nat.le_of_ble_eq_true rfl, Nat.le_of_ble_eq_true rfl, rfl, Nat.le_of_ble_eq_true rfl, rfl⟩ ?_
        refine R_tokenEnd hR ⟨by omega, by omega⟩ ⟨by omega, by omega, by omega⟩ ?_
        refine v_ige rfl (fun _ => ?_) (fun h => absurd h (by omega))
        refine v_iinc rfl rfl rfl (by omega) rfl ?_
        refine v_goto rfl ?_
        exact ihh
theorem R_tokenWith {p : Int} (hS : RSt t M) (k : Q (some (0, if hld t p = -1 then -2 else hld t p)) M) : v_call L (d + 2) 266 [(2, 77), (0, p)] M Q := by
  refine v_in ?_
  refine v_push rfl ?_
  refine v_store rfl ⟨rfl, Nat.le_of_ble_eq_true rfl, Nat.le_of_ble_eq_true rfl, rfl⟩ rfl ?_
  exact R_with_loop hS k _ 0 rfl (Nat.zero_le _) rfl
noncomputable def tokAtQ (s : zA) (p : Int) : Int := if 0 ≤ p ∧ p < (s.1.1.length : Int) then (if hld s.1.1 p = -1 then -2 else hld s.1.1 p) else -1
theorem S_tokenAt {p : Int} (hC : CS s M) (k : Q (some (0, tokAtQ s p)) M) : v_call L (d + 10) 142 [(2, 1), (0, p)] M Q := by
  obtain ⟨h1, -, -, -, h5, -⟩ := id hC
  unfold tokAtQ at k
  refine v_in ?_
  refine v_load rfl rfl ⟨rfl, Nat.le_of_ble_eq_true rfl⟩ ?_
  refine v_iflt rfl (fun c2 => ?_) (fun c2 => ?_)
  · refine v_push rfl ?_
    refine v_ret rfl rfl ?_
    exact qeq k (by repeat' split; all_goals omega)
  · refine v_load rfl rfl ⟨rfl, Nat.le_of_ble_eq_true rfl⟩ ?_
    refine v_load rfl rfl ⟨rfl, Nat.le_of_ble_eq_true rfl⟩ ?_
    refine v_getp rfl rfl rfl ?_
    refine v_callr rfl ⟨Nat.le_of_ble_eq_true rfl, Nat.le_of_ble_eq_true rfl, rfl, Nat.le_of_ble_eq_true rfl, rfl⟩ ?_
    refine S_sizeT z_B2 h1 ?_
    refine v_ilt rfl (fun c3 => ?_) (fun c3 => ?_)
    · refine v_load rfl rfl ⟨rfl, Nat.le_of_ble_eq_true rfl⟩ ?_
      refine v_getp rfl rfl rfl ?_
      refine v_load rfl rfl ⟨rfl, Nat.le_of_ble_eq_true rfl⟩ ?_
      refine v_callr rfl ⟨Nat.le_of_ble_eq_true rfl, Nat.le_of_ble_eq_true rfl, rfl, Nat.le_of_ble_eq_true rfl, rfl⟩ ?_
      refine S_holding h5 ?_
      refine v_store rfl ⟨rfl, Nat.le_of_ble_eq_true rfl, Nat.le_of_ble_eq_true rfl, rfl⟩ rfl ?_
      refine v_load rfl rfl ⟨rfl, Nat.le_of_ble_eq_true rfl⟩ ?_
      refine v_push rfl ?_
      refine v_ine rfl (fun c4 => ?_) (fun c4 => ?_)
      · refine v_load rfl rfl ⟨rfl, Nat.le_of_ble_eq_true rfl⟩ ?_
        refine v_ret rfl rfl ?_
        exact qeq k (by repeat' split; all_goals omega)
      · refine v_push rfl ?_
        refine v_goto rfl ?_
        refine v_ret rfl rfl ?_
        exact qeq k (by repeat' split; all_goals omega)
    · refine v_push rfl ?_
      refine v_ret rfl rfl ?_
      exact qeq k (by repeat' split; all_goals omega)
theorem R_tokenAt {p : Int} (hC : RS s M) (k : Q (some (0, tokAtQ s p)) M) : v_call L (d + 10) 267 [(2, 77), (0, p)] M Q := by
  have hS := hC.1
  have h4 := hS.1.1
  have hl := hS.1.2.1
  unfold tokAtQ at k
  refine v_in ?_
  by_cases c : 0 ≤ p ∧ p ≤ (s.1.1.length : Int) - 1
  · rw [if_pos ⟨c.1, by omega⟩] at k
    refine v_load rfl rfl ⟨rfl, Nat.le_of_ble_eq_true rfl⟩ ?_
    refine v_push rfl ?_
    refine v_load rfl rfl ⟨rfl, Nat.le_of_ble_eq_true rfl⟩ ?_
    refine v_getx rfl rfl (h4) ?_
    refine v_push rfl ?_
    refine v_sub rfl (by omega) ?_
    refine v_callr rfl ⟨Nat.le_of_ble_eq_true rfl, Nat.le_of_ble_eq_true rfl, rfl, Nat.le_of_ble_eq_true rfl, rfl⟩ ?_
    refine R_in ?_
    rw [b2i_t (decide_eq_true c)]
    refine v_ifeq rfl (fun h => absurd h (by decide)) (fun _ => ?_)
    refine v_load rfl rfl ⟨rfl, Nat.le_of_ble_eq_true rfl⟩ ?_
    refine v_load rfl rfl ⟨rfl, Nat.le_of_ble_eq_true rfl⟩ ?_
    refine v_callr rfl ⟨Nat.le_of_ble_eq_true rfl, Nat.le_of_ble_eq_true rfl, rfl, Nat.le_of_ble_eq_true rfl, rfl⟩ ?_
    refine R_tokenWith hS ?_
    refine v_goto rfl ?_
    refine v_ret rfl rfl ?_
    exact k
  · rw [if_neg (by omega)] at k
    refine v_load rfl rfl ⟨rfl, Nat.le_of_ble_eq_true rfl⟩ ?_
    refine v_push rfl ?_
    refine v_load rfl rfl ⟨rfl, Nat.le_of_ble_eq_true rfl⟩ ?_
    refine v_getx rfl rfl (h4) ?_
    refine v_push rfl ?_
    refine v_sub rfl (by omega) ?_
    refine v_callr rfl ⟨Nat.le_of_ble_eq_true rfl, Nat.le_of_ble_eq_true rfl, rfl, Nat.le_of_ble_eq_true rfl, rfl⟩ ?_
    refine R_in ?_
    rw [b2i_f (by simpa using c)]
    refine v_ifeq rfl (fun _ => ?_) (fun h => absurd h (by decide))
    refine v_push rfl ?_
    refine v_ret rfl rfl ?_
    exact k
end Q2
