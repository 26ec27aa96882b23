/-! QUESTIONS: level, blanks -/
section Q5
variable {L d n : Nat} {M : zM} {Q : Option zV → zM → Prop} {s : zA} {t : List Int}
noncomputable def lvP (t : List Int) (b : Int) (j : Nat) : Bool := decide ((nd (NT (toks t)) (j : Int)).1 = 5 ∧ pF t (j : Int) < b ∧ b < pE t (j : Int))
noncomputable def levelQ (s : zA) (i : Int) : Int := if 0 ≤ i ∧ i < ((lns s.1.1).length : Int) then cI (lvP s.1.1 (lnB s.1.1 i)) (NT (toks s.1.1)).length else -1
theorem lv_s {b : Int} {j : Nat} : cI (lvP t b) (j + 1) = cI (lvP t b) j + (if (nd (NT (toks t)) (j : Int)).1 = 5 ∧ pF t (j : Int) < b ∧ b < pE t (j : Int) then 1 else 0) := by
  show cI (lvP t b) j + _ = _
  unfold lvP
  simp
theorem S_level_loop {i b : Int} (hV : BV M 2 t 0) (hR : RT (toks t) M) (hN : TN (toks t) M) (hl : t.length ≤ 300) (k : Q (some (0, cI (lvP t b) (NT (toks t)).length)) M) : ∀ (n j : Nat), n = (NT (toks t)).length - j → j ≤ (NT (toks t)).length → v_wp L (d + 3) 154 21 [(2, 1), (0, i), (0, b), (0, cI (lvP t b) j), (0, (j : Int))] [] M Q := by
  intro n
  have hlN : (NT (toks t)).length ≤ 1216 := hN.1.2.1
  induction n with
  | zero =>
    intro j hn hj
    have ej : j = (NT (toks t)).length := by omega
    subst ej
    refine v_load rfl rfl ⟨rfl, Nat.le_of_ble_eq_true rfl⟩ ?_
    refine v_load rfl rfl ⟨rfl, Nat.le_of_ble_eq_true rfl⟩ ?_
    refine v_getp rfl rfl rfl ?_
    refine v_callr rfl ⟨Nat.le_of_ble_eq_true rfl, Nat.le_of_ble_eq_true rfl, rfl, Nat.le_of_ble_eq_true rfl, rfl⟩ ?_
    refine S_ndSize hN.1 ?_
    refine v_ige rfl (fun _ => ?_) (fun h => absurd h (by omega))
    refine v_load rfl rfl ⟨rfl, Nat.le_of_ble_eq_true rfl⟩ ?_
    refine v_ret rfl rfl ?_
    exact k
  | succ n ih =>
    intro j hn hj
    have hc := cI_nn (lvP t b) j
    have ihh := ih (j + 1) (by omega) (by omega)
    rw [lv_s, show ((j + 1 : Nat) : Int) = (j : Int) + 1 by omega] at ihh
    by_cases c5 : (nd (NT (toks t)) (j : Int)).1 = 5
    · refine v_load rfl rfl ⟨rfl, Nat.le_of_ble_eq_true rfl⟩ ?_
      refine v_load rfl rfl ⟨rfl, Nat.le_of_ble_eq_true rfl⟩ ?_
      refine v_getp rfl rfl rfl ?_
      refine v_callr rfl ⟨Nat.le_of_ble_eq_true rfl, Nat.le_of_ble_eq_true rfl, rfl, Nat.le_of_ble_eq_true rfl, rfl⟩ ?_
      refine S_ndSize hN.1 ?_
      refine v_ige rfl (fun h => absurd h (by omega)) (fun _ => ?_)
      refine v_load rfl rfl ⟨rfl, Nat.le_of_ble_eq_true rfl⟩ ?_
      refine v_getp rfl rfl rfl ?_
      refine v_load rfl rfl ⟨rfl, Nat.le_of_ble_eq_true rfl⟩ ?_
      refine v_push rfl ?_
      refine v_callr rfl ⟨Nat.le_of_ble_eq_true rfl, Nat.le_of_ble_eq_true rfl, rfl, Nat.le_of_ble_eq_true rfl, rfl⟩ ?_
      refine S_ndIsOf hN.1 (by decide) ?_
      rw [b2i_t (decide_eq_true c5)]
      refine v_ifeq rfl (fun h => absurd h (by decide)) (fun _ => ?_)
      refine v_load rfl rfl ⟨rfl, Nat.le_of_ble_eq_true rfl⟩ ?_
      refine v_getp rfl rfl rfl ?_
      refine v_load rfl rfl ⟨rfl, Nat.le_of_ble_eq_true rfl⟩ ?_
      refine v_callr rfl ⟨Nat.le_of_ble_eq_true rfl, Nat.le_of_ble_eq_true rfl, rfl, Nat.le_of_ble_eq_true rfl, rfl⟩ ?_
      refine S_firstOf hR hN hl ?_
      refine v_load rfl rfl ⟨rfl, Nat.le_of_ble_eq_true rfl⟩ ?_
      refine v_ige rfl (fun c1 => ?_) (fun c1 => ?_)
      · refine v_iinc rfl rfl rfl (by omega) rfl ?_
        refine v_goto rfl ?_
        rw [if_neg (by omega), Int.add_zero] at ihh; exact ihh
      · refine v_load rfl rfl ⟨rfl, Nat.le_of_ble_eq_true rfl⟩ ?_
        refine v_getp rfl rfl rfl ?_
        refine v_load rfl rfl ⟨rfl, Nat.le_of_ble_eq_true rfl⟩ ?_
        refine v_callr rfl ⟨Nat.le_of_ble_eq_true rfl, Nat.le_of_ble_eq_true rfl, rfl, Nat.le_of_ble_eq_true rfl, rfl⟩ ?_
        refine S_endOf hV hR hN hl ?_
        refine v_load rfl rfl ⟨rfl, Nat.le_of_ble_eq_true rfl⟩ ?_
        refine v_ile rfl (fun c2 => ?_) (fun c2 => ?_)
        · refine v_iinc rfl rfl rfl (by omega) rfl ?_
          refine v_goto rfl ?_
          rw [if_neg (by omega), Int.add_zero] at ihh; exact ihh
        · refine v_iinc rfl rfl rfl (by omega) rfl ?_
          refine v_iinc rfl rfl rfl (by omega) rfl ?_
          refine v_goto rfl ?_
          rw [if_pos (by omega)] at ihh; exact ihh
    · rw [if_neg (fun z => c5 z.1), Int.add_zero] at ihh
      refine v_load rfl rfl ⟨rfl, Nat.le_of_ble_eq_true rfl⟩ ?_
      refine v_load rfl rfl ⟨rfl, Nat.le_of_ble_eq_true rfl⟩ ?_
      refine v_getp rfl rfl rfl ?_
      refine v_callr rfl ⟨Nat.le_of_ble_eq_true rfl, Nat.le_of_ble_eq_true rfl, rfl, Nat.le_of_ble_eq_true rfl, rfl⟩ ?_
      refine S_ndSize hN.1 ?_
      refine v_ige rfl (fun h => absurd h (by omega)) (fun _ => ?_)
      refine v_load rfl rfl ⟨rfl, Nat.le_of_ble_eq_true rfl⟩ ?_
      refine v_getp rfl rfl rfl ?_
      refine v_load rfl rfl ⟨rfl, Nat.le_of_ble_eq_true rfl⟩ ?_
      refine v_push rfl ?_
      refine v_callr rfl ⟨Nat.le_of_ble_eq_true rfl, Nat.le_of_ble_eq_true rfl, rfl, Nat.le_of_ble_eq_true rfl, rfl⟩ ?_
      refine S_ndIsOf hN.1 (by decide) ?_
      rw [b2i_f (by simpa using c5)]
      refine v_ifeq rfl (fun _ => ?_) (fun h => absurd h (by decide))
      refine v_iinc rfl rfl rfl (by omega) rfl ?_
      refine v_goto rfl ?_
      exact ihh
theorem S_level {i : Int} (hC : CS s M) (hB : BS s n) (k : Q (some (0, levelQ s i)) M) : v_call L (d + 10) 154 [(2, 1), (0, i)] M Q := by
  obtain ⟨h1, -, -, -, h5, h6, -⟩ := id hC
  have hl := hB.1
  have r := lnB_rng (t := s.1.1) (i := i)
  unfold levelQ at k
  refine v_in ?_
  by_cases c : 0 ≤ i ∧ i < ((lns s.1.1).length : Int)
  · rw [if_pos c] at k
    have hne : ¬ lnB s.1.1 i = -1 := fun z => (r.2.2.mp z) c
    refine v_load rfl rfl ⟨rfl, Nat.le_of_ble_eq_true rfl⟩ ?_
    refine v_getp rfl rfl rfl ?_
    refine v_load rfl rfl ⟨rfl, Nat.le_of_ble_eq_true rfl⟩ ?_
    refine v_callr rfl ⟨Nat.le_of_ble_eq_true rfl, Nat.le_of_ble_eq_true rfl, rfl, Nat.le_of_ble_eq_true rfl, rfl⟩ ?_
    refine S_lineBegin z_B2 h1 ?_
    refine v_store rfl ⟨rfl, Nat.le_of_ble_eq_true rfl, Nat.le_of_ble_eq_true rfl, rfl⟩ rfl ?_
    refine v_load rfl rfl ⟨rfl, Nat.le_of_ble_eq_true rfl⟩ ?_
    refine v_push rfl ?_
    refine v_ine rfl (fun _ => ?_) (fun h => absurd h (by omega))
    refine v_push rfl ?_
    refine v_store rfl ⟨rfl, Nat.le_of_ble_eq_true rfl, Nat.le_of_ble_eq_true rfl, rfl⟩ rfl ?_
    refine v_push rfl ?_
    refine v_store rfl ⟨rfl, Nat.le_of_ble_eq_true rfl, Nat.le_of_ble_eq_true rfl, rfl⟩ rfl ?_
    exact S_level_loop (d := d + 7) h1 h5 h6 hl k _ 0 rfl (Nat.zero_le _)
  · rw [if_neg c] at k
    have he := r.2.2.mpr c
    refine v_load rfl rfl ⟨rfl, Nat.le_of_ble_eq_true rfl⟩ ?_
    refine v_getp rfl rfl rfl ?_
    refine v_load rfl rfl ⟨rfl, Nat.le_of_ble_eq_true rfl⟩ ?_
    refine v_callr rfl ⟨Nat.le_of_ble_eq_true rfl, Nat.le_of_ble_eq_true rfl, rfl, Nat.le_of_ble_eq_true rfl, rfl⟩ ?_
    refine S_lineBegin z_B2 h1 ?_
    refine v_store rfl ⟨rfl, Nat.le_of_ble_eq_true rfl, Nat.le_of_ble_eq_true rfl, rfl⟩ rfl ?_
    refine v_load rfl rfl ⟨rfl, Nat.le_of_ble_eq_true rfl⟩ ?_
    refine v_push rfl ?_
    refine v_ine rfl (fun h => absurd h (by omega)) (fun _ => ?_)
    refine v_push rfl ?_
    refine v_ret rfl rfl ?_
    exact k
theorem R_level_loop {i : Int} (hS : RSt t M) (hi : 0 ≤ i ∧ i < ((lns t).length : Int)) (k : Q (some (0, cI (lvP t (lnB t i)) (NT (toks t)).length)) M) : ∀ (n j : Nat), n = (NT (toks t)).length - j → j ≤ (NT (toks t)).length → v_wp L (d + 3) 283 14 [(2, 77), (0, i), (0, cI (lvP t (lnB t i)) j), (0, (j : Int))] [] M Q := by
  intro n
  have hlN := NT_1216 hS
  have hl := hS.1.2.1
  have h301 := lns_301 hl
  have h44 := (TM_len hS.2.2.1).1
  have gl := RLN_at hS hi
  induction n with
  | zero =>
    intro j hn hj
    have ej : j = (NT (toks t)).length := by omega
    subst ej
    refine v_load rfl rfl ⟨rfl, Nat.le_of_ble_eq_true rfl⟩ ?_
    refine v_load rfl rfl ⟨rfl, Nat.le_of_ble_eq_true rfl⟩ ?_
    refine v_getx rfl rfl (h44) ?_
    refine v_ige rfl (fun _ => ?_) (fun h => absurd h (by omega))
    refine v_load rfl rfl ⟨rfl, Nat.le_of_ble_eq_true rfl⟩ ?_
    refine v_ret rfl rfl ?_
    exact k
  | succ n ih =>
    intro j hn hj
    have g1 := (TM_nd hS (i := (j : Int)) ⟨by omega, by omega⟩).1
    have hc := cI_nn (lvP t (lnB t i)) j
    have ihh := ih (j + 1) (by omega) (by omega)
    rw [lv_s, show ((j + 1 : Nat) : Int) = (j : Int) + 1 by omega] at ihh
    by_cases c5 : (nd (NT (toks t)) (j : Int)).1 = 5
    · refine v_load rfl rfl ⟨rfl, Nat.le_of_ble_eq_true rfl⟩ ?_
      refine v_load rfl rfl ⟨rfl, Nat.le_of_ble_eq_true rfl⟩ ?_
      refine v_getx rfl rfl (h44) ?_
      refine v_ige rfl (fun h => absurd h (by omega)) (fun _ => ?_)
      refine v_load rfl rfl ⟨rfl, Nat.le_of_ble_eq_true rfl⟩ ?_
      refine v_getp rfl rfl rfl ?_
      refine v_load rfl rfl ⟨rfl, Nat.le_of_ble_eq_true rfl⟩ ?_
      refine v_ald9 rfl rfl ⟨by omega, by show _ < (1600 : Int); omega⟩ ?_
      rw [g1]
      refine v_push rfl ?_
      refine v_ine rfl (fun h => absurd h (by omega)) (fun _ => ?_)
      refine v_load rfl rfl ⟨rfl, Nat.le_of_ble_eq_true rfl⟩ ?_
      refine v_load rfl rfl ⟨rfl, Nat.le_of_ble_eq_true rfl⟩ ?_
      refine v_callr rfl ⟨Nat.le_of_ble_eq_true rfl, Nat.le_of_ble_eq_true rfl, rfl, Nat.le_of_ble_eq_true rfl, rfl⟩ ?_
      refine R_from hS ⟨by omega, by omega⟩ ?_
      refine v_load rfl rfl ⟨rfl, Nat.le_of_ble_eq_true rfl⟩ ?_
      refine v_getp rfl rfl rfl ?_
      refine v_load rfl rfl ⟨rfl, Nat.le_of_ble_eq_true rfl⟩ ?_
      refine v_ald9 rfl rfl ⟨by omega, by show _ < (301 : Int); omega⟩ ?_
      rw [gl]
      refine v_ige rfl (fun c1 => ?_) (fun c1 => ?_)
      · refine v_load rfl rfl ⟨rfl, Nat.le_of_ble_eq_true rfl⟩ ?_
        refine v_store rfl ⟨rfl, Nat.le_of_ble_eq_true rfl, Nat.le_of_ble_eq_true rfl, rfl⟩ rfl ?_
        refine v_iinc rfl rfl rfl (by omega) rfl ?_
        refine v_goto rfl ?_
        rw [if_neg (by omega), Int.add_zero] at ihh; exact ihh
      · refine v_load rfl rfl ⟨rfl, Nat.le_of_ble_eq_true rfl⟩ ?_
        refine v_load rfl rfl ⟨rfl, Nat.le_of_ble_eq_true rfl⟩ ?_
        refine v_callr rfl ⟨Nat.le_of_ble_eq_true rfl, Nat.le_of_ble_eq_true rfl, rfl, Nat.le_of_ble_eq_true rfl, rfl⟩ ?_
        refine R_to hS ⟨by omega, by omega⟩ ?_
        refine v_load rfl rfl ⟨rfl, Nat.le_of_ble_eq_true rfl⟩ ?_
        refine v_getp rfl rfl rfl ?_
        refine v_load rfl rfl ⟨rfl, Nat.le_of_ble_eq_true rfl⟩ ?_
        refine v_ald9 rfl rfl ⟨by omega, by show _ < (301 : Int); omega⟩ ?_
        rw [gl]
        refine v_ile rfl (fun c2 => ?_) (fun c2 => ?_)
        · refine v_load rfl rfl ⟨rfl, Nat.le_of_ble_eq_true rfl⟩ ?_
          refine v_store rfl ⟨rfl, Nat.le_of_ble_eq_true rfl, Nat.le_of_ble_eq_true rfl, rfl⟩ rfl ?_
          refine v_iinc rfl rfl rfl (by omega) rfl ?_
          refine v_goto rfl ?_
          rw [if_neg (by omega), Int.add_zero] at ihh; exact ihh
        · refine v_load rfl rfl ⟨rfl, Nat.le_of_ble_eq_true rfl⟩ ?_
          refine v_push rfl ?_
          refine v_add rfl (by omega) ?_
          refine v_goto rfl ?_
          refine v_store rfl ⟨rfl, Nat.le_of_ble_eq_true rfl, Nat.le_of_ble_eq_true rfl, rfl⟩ rfl ?_
          refine v_iinc rfl rfl rfl (by omega) rfl ?_
          refine v_goto rfl ?_
          rw [if_pos (by omega)] at ihh; exact ihh
    · rw [if_neg (fun z => c5 z.1), Int.add_zero] at ihh
      refine v_load rfl rfl ⟨rfl, Nat.le_of_ble_eq_true rfl⟩ ?_
      refine v_load rfl rfl ⟨rfl, Nat.le_of_ble_eq_true rfl⟩ ?_
      refine v_getx rfl rfl (h44) ?_
      refine v_ige rfl (fun h => absurd h (by omega)) (fun _ => ?_)
      refine v_load rfl rfl ⟨rfl, Nat.le_of_ble_eq_true rfl⟩ ?_
      refine v_getp rfl rfl rfl ?_
      refine v_load rfl rfl ⟨rfl, Nat.le_of_ble_eq_true rfl⟩ ?_
      refine v_ald9 rfl rfl ⟨by omega, by show _ < (1600 : Int); omega⟩ ?_
      rw [g1]
      refine v_push rfl ?_
      refine v_ine rfl (fun _ => ?_) (fun h => absurd h (by omega))
      refine v_load rfl rfl ⟨rfl, Nat.le_of_ble_eq_true rfl⟩ ?_
      refine v_store rfl ⟨rfl, Nat.le_of_ble_eq_true rfl, Nat.le_of_ble_eq_true rfl, rfl⟩ rfl ?_
      refine v_iinc rfl rfl rfl (by omega) rfl ?_
      refine v_goto rfl ?_
      exact ihh
theorem R_level {i : Int} (hC : RS s M) (k : Q (some (0, levelQ s i)) M) : v_call L (d + 10) 283 [(2, 77), (0, i)] M Q := by
  have hS := hC.1
  unfold levelQ at k
  refine v_in ?_
  by_cases c : 0 ≤ i ∧ i ≤ ((lns s.1.1).length : Int) - 1
  · rw [if_pos ⟨c.1, by omega⟩] at k
    refine v_load rfl rfl ⟨rfl, Nat.le_of_ble_eq_true rfl⟩ ?_
    refine v_load rfl rfl ⟨rfl, Nat.le_of_ble_eq_true rfl⟩ ?_
    refine v_callr rfl ⟨Nat.le_of_ble_eq_true rfl, Nat.le_of_ble_eq_true rfl, rfl, Nat.le_of_ble_eq_true rfl, rfl⟩ ?_
    refine R_isLine hS ?_
    rw [b2i_t (decide_eq_true c)]
    refine v_ifne rfl (fun _ => ?_) (fun h => absurd h (by decide))
    refine v_push rfl ?_
    refine v_store rfl ⟨rfl, Nat.le_of_ble_eq_true rfl, Nat.le_of_ble_eq_true rfl, rfl⟩ rfl ?_
    refine v_push rfl ?_
    refine v_store rfl ⟨rfl, Nat.le_of_ble_eq_true rfl, Nat.le_of_ble_eq_true rfl, rfl⟩ rfl ?_
    exact R_level_loop (d := d + 7) hS ⟨c.1, by omega⟩ k _ 0 rfl (Nat.zero_le _)
  · rw [if_neg (by omega)] at k
    refine v_load rfl rfl ⟨rfl, Nat.le_of_ble_eq_true rfl⟩ ?_
    refine v_load rfl rfl ⟨rfl, Nat.le_of_ble_eq_true rfl⟩ ?_
    refine v_callr rfl ⟨Nat.le_of_ble_eq_true rfl, Nat.le_of_ble_eq_true rfl, rfl, Nat.le_of_ble_eq_true rfl, rfl⟩ ?_
    refine R_isLine hS ?_
    rw [b2i_f (by simpa using c)]
    refine v_ifne rfl (fun h => absurd h (by decide)) (fun _ => ?_)
    refine v_push rfl ?_
    refine v_ret rfl rfl ?_
    exact k
/-- blanks -/
def blF (t : List Int) (b : Int) : Nat → Nat → Nat
  | 0, m => m
  | n + 1, m => if tb t (b + (m : Int)) = 32 then blF t b n (m + 1) else m
noncomputable def blanksQ (s : zA) (i : Int) : Int := if 0 ≤ i ∧ i < ((lns s.1.1).length : Int) then (blF s.1.1 (lnB s.1.1 i) s.1.1.length 0 : Int) else -1
theorem blF_more {b : Int} (hb : 0 ≤ b) : ∀ (n m : Nat), (t.length : Int) ≤ b + (m : Int) → blF t b n m = m
  | 0, m, _ => rfl
  | n + 1, m, h => by
    unfold blF
    rw [if_neg]
    unfold tb
    rw [if_neg (by omega)]
    decide
theorem S_blanks_loop {i b : Int} (hV : BV M 2 t 0) (hb : 0 ≤ b) : ∀ (n m : Nat), (t.length : Int) ≤ b + (m : Int) + (n : Int) → b + (m : Int) ≤ (t.length : Int) → Q (some (0, (blF t b n m : Int))) M → v_wp L (d + 3) 155 21 [(2, 1), (0, i), (0, b), (0, (m : Int)), (0, b + (m : Int))] [] M Q := by
  intro n
  have hl := hV.2.1
  induction n with
  | zero =>
    intro m h1 h2 k
    refine v_load rfl rfl ⟨rfl, Nat.le_of_ble_eq_true rfl⟩ ?_
    refine v_load rfl rfl ⟨rfl, Nat.le_of_ble_eq_true rfl⟩ ?_
    refine v_getp rfl rfl rfl ?_
    refine v_callr rfl ⟨Nat.le_of_ble_eq_true rfl, Nat.le_of_ble_eq_true rfl, rfl, Nat.le_of_ble_eq_true rfl, rfl⟩ ?_
    refine S_sizeT z_B2 hV ?_
    refine v_ige rfl (fun _ => ?_) (fun h => absurd h (by omega))
    refine v_load rfl rfl ⟨rfl, Nat.le_of_ble_eq_true rfl⟩ ?_
    refine v_ret rfl rfl ?_
    exact k
  | succ n ih =>
    intro m h1 h2 k
    by_cases c : b + (m : Int) < (t.length : Int)
    · unfold blF at k
      by_cases c2 : tb t (b + (m : Int)) = 32
      · rw [if_pos c2] at k
        have ihh := ih (m + 1) (by omega) (by omega) k
        rw [show ((m + 1 : Nat) : Int) = (m : Int) + 1 by omega, ← Int.add_assoc] at ihh
        refine v_load rfl rfl ⟨rfl, Nat.le_of_ble_eq_true rfl⟩ ?_
        refine v_load rfl rfl ⟨rfl, Nat.le_of_ble_eq_true rfl⟩ ?_
        refine v_getp rfl rfl rfl ?_
        refine v_callr rfl ⟨Nat.le_of_ble_eq_true rfl, Nat.le_of_ble_eq_true rfl, rfl, Nat.le_of_ble_eq_true rfl, rfl⟩ ?_
        refine S_sizeT z_B2 hV ?_
        refine v_ige rfl (fun h => absurd h (by omega)) (fun _ => ?_)
        refine v_load rfl rfl ⟨rfl, Nat.le_of_ble_eq_true rfl⟩ ?_
        refine v_getp rfl rfl rfl ?_
        refine v_load rfl rfl ⟨rfl, Nat.le_of_ble_eq_true rfl⟩ ?_
        refine v_callr rfl ⟨Nat.le_of_ble_eq_true rfl, Nat.le_of_ble_eq_true rfl, rfl, Nat.le_of_ble_eq_true rfl, rfl⟩ ?_
        refine S_atT z_B2 hV ?_
        refine v_push rfl ?_
        refine v_ine rfl (fun h => absurd h (by omega)) (fun _ => ?_)
        refine v_iinc rfl rfl rfl (by omega) rfl ?_
        refine v_iinc rfl rfl rfl (by omega) rfl ?_
        refine v_goto rfl ?_
        exact ihh
      · rw [if_neg c2] at k
        refine v_load rfl rfl ⟨rfl, Nat.le_of_ble_eq_true rfl⟩ ?_
        refine v_load rfl rfl ⟨rfl, Nat.le_of_ble_eq_true rfl⟩ ?_
        refine v_getp rfl rfl rfl ?_
        refine v_callr rfl ⟨Nat.le_of_ble_eq_true rfl, Nat.le_of_ble_eq_true rfl, rfl, Nat.le_of_ble_eq_true rfl, rfl⟩ ?_
        refine S_sizeT z_B2 hV ?_
        refine v_ige rfl (fun h => absurd h (by omega)) (fun _ => ?_)
        refine v_load rfl rfl ⟨rfl, Nat.le_of_ble_eq_true rfl⟩ ?_
        refine v_getp rfl rfl rfl ?_
        refine v_load rfl rfl ⟨rfl, Nat.le_of_ble_eq_true rfl⟩ ?_
        refine v_callr rfl ⟨Nat.le_of_ble_eq_true rfl, Nat.le_of_ble_eq_true rfl, rfl, Nat.le_of_ble_eq_true rfl, rfl⟩ ?_
        refine S_atT z_B2 hV ?_
        refine v_push rfl ?_
        refine v_ine rfl (fun _ => ?_) (fun h => absurd h (by omega))
        refine v_load rfl rfl ⟨rfl, Nat.le_of_ble_eq_true rfl⟩ ?_
        refine v_ret rfl rfl ?_
        exact k
    · rw [blF_more hb _ _ (by omega)] at k
      refine v_load rfl rfl ⟨rfl, Nat.le_of_ble_eq_true rfl⟩ ?_
      refine v_load rfl rfl ⟨rfl, Nat.le_of_ble_eq_true rfl⟩ ?_
      refine v_getp rfl rfl rfl ?_
      refine v_callr rfl ⟨Nat.le_of_ble_eq_true rfl, Nat.le_of_ble_eq_true rfl, rfl, Nat.le_of_ble_eq_true rfl, rfl⟩ ?_
      refine S_sizeT z_B2 hV ?_
      refine v_ige rfl (fun _ => ?_) (fun h => absurd h (by omega))
      refine v_load rfl rfl ⟨rfl, Nat.le_of_ble_eq_true rfl⟩ ?_
      refine v_ret rfl rfl ?_
      exact k
theorem S_blanks {i : Int} (hC : CS s M) (k : Q (some (0, blanksQ s i)) M) : v_call L (d + 10) 155 [(2, 1), (0, i)] M Q := by
  have h1 := hC.1
  have r := lnB_rng (t := s.1.1) (i := i)
  unfold blanksQ at k
  refine v_in ?_
  by_cases c : 0 ≤ i ∧ i < ((lns s.1.1).length : Int)
  · rw [if_pos c] at k
    have hne : ¬ lnB s.1.1 i = -1 := fun z => (r.2.2.mp z) c
    refine v_load rfl rfl ⟨rfl, Nat.le_of_ble_eq_true rfl⟩ ?_
    refine v_getp rfl rfl rfl ?_
    refine v_load rfl rfl ⟨rfl, Nat.le_of_ble_eq_true rfl⟩ ?_
    refine v_callr rfl ⟨Nat.le_of_ble_eq_true rfl, Nat.le_of_ble_eq_true rfl, rfl, Nat.le_of_ble_eq_true rfl, rfl⟩ ?_
    refine S_lineBegin z_B2 h1 ?_
    refine v_store rfl ⟨rfl, Nat.le_of_ble_eq_true rfl, Nat.le_of_ble_eq_true rfl, rfl⟩ rfl ?_
    refine v_load rfl rfl ⟨rfl, Nat.le_of_ble_eq_true rfl⟩ ?_
    refine v_push rfl ?_
    refine v_ine rfl (fun _ => ?_) (fun h => absurd h (by omega))
    refine v_push rfl ?_
    refine v_store rfl ⟨rfl, Nat.le_of_ble_eq_true rfl, Nat.le_of_ble_eq_true rfl, rfl⟩ rfl ?_
    refine v_load rfl rfl ⟨rfl, Nat.le_of_ble_eq_true rfl⟩ ?_
    refine v_store rfl ⟨rfl, Nat.le_of_ble_eq_true rfl, Nat.le_of_ble_eq_true rfl, rfl⟩ rfl ?_
    have := S_blanks_loop (L := L) (d := d + 7) (i := i) h1 (b := lnB s.1.1 i) (by omega) s.1.1.length 0 (by omega) (by omega) k
    rw [show lnB s.1.1 i + ((0 : Nat) : Int) = lnB s.1.1 i by omega] at this
    exact this
  · rw [if_neg c] at k
    have he := r.2.2.mpr c
    refine v_load rfl rfl ⟨rfl, Nat.le_of_ble_eq_true rfl⟩ ?_
    refine v_getp rfl rfl rfl ?_
    refine v_load rfl rfl ⟨rfl, Nat.le_of_ble_eq_true rfl⟩ ?_
    refine v_callr rfl ⟨Nat.le_of_ble_eq_true rfl, Nat.le_of_ble_eq_true rfl, rfl, Nat.le_of_ble_eq_true rfl, rfl⟩ ?_
    refine S_lineBegin z_B2 h1 ?_
    refine v_store rfl ⟨rfl, Nat.le_of_ble_eq_true rfl, Nat.le_of_ble_eq_true rfl, rfl⟩ rfl ?_
    refine v_load rfl rfl ⟨rfl, Nat.le_of_ble_eq_true rfl⟩ ?_
    refine v_push rfl ?_
    refine v_ine rfl (fun h => absurd h (by omega)) (fun _ => ?_)
    refine v_push rfl ?_
    refine v_ret rfl rfl ?_
    exact k
theorem R_byteIn {i : Int} (hX : RX t M) (hi : 0 ≤ i ∧ i < (t.length : Int)) (k : Q (some (0, tb t i)) M) : v_call L d 177 [(2, 77), (0, i)] M Q := by
  have h4 := hX.1
  have hl := hX.2.1
  have g := RX_at hX hi
  refine v_in ?_
  refine v_load rfl rfl ⟨rfl, Nat.le_of_ble_eq_true rfl⟩ ?_
  refine v_load rfl rfl ⟨rfl, Nat.le_of_ble_eq_true rfl⟩ ?_
  refine v_getx rfl rfl (h4) ?_
  refine v_ige rfl (fun h => absurd h (by omega)) (fun _ => ?_)
  refine v_load rfl rfl ⟨rfl, Nat.le_of_ble_eq_true rfl⟩ ?_
  refine v_getp rfl rfl rfl ?_
  refine v_load rfl rfl ⟨rfl, Nat.le_of_ble_eq_true rfl⟩ ?_
  refine v_ald9 rfl rfl ⟨by omega, by show _ < (300 : Int); omega⟩ ?_
  rw [g]
  refine v_goto rfl ?_
  refine v_ret rfl rfl ?_
  exact k
theorem R_blanks_loop {i : Int} (hS : RSt t M) (hi : 0 ≤ i ∧ i < ((lns t).length : Int)) : ∀ (n m : Nat), (t.length : Int) ≤ lnB t i + (m : Int) + (n : Int) → lnB t i + (m : Int) ≤ (t.length : Int) → Q (some (0, (blF t (lnB t i) n m : Int))) M → v_wp L (d + 3) 284 17 [(2, 77), (0, i), (0, lnB t i + (m : Int))] [] M Q := by
  intro n
  have hl := hS.1.2.1
  have h4 := hS.1.1
  have h301 := lns_301 hl
  have gl := RLN_at hS hi
  have r := lnB_rng (t := t) (i := i)
  have hne : ¬ lnB t i = -1 := fun z => (r.2.2.mp z) hi
  have fin : ∀ m : Nat, lnB t i + (m : Int) ≤ (t.length : Int) → Q (some (0, (m : Int))) M → v_wp L (d + 3) 284 42 [(2, 77), (0, i), (0, lnB t i + (m : Int))] [] M Q := by
    intro m hm k
    refine v_load rfl rfl ⟨rfl, Nat.le_of_ble_eq_true rfl⟩ ?_
    refine v_load rfl rfl ⟨rfl, Nat.le_of_ble_eq_true rfl⟩ ?_
    refine v_getp rfl rfl rfl ?_
    refine v_load rfl rfl ⟨rfl, Nat.le_of_ble_eq_true rfl⟩ ?_
    refine v_ald9 rfl rfl ⟨by omega, by show _ < (301 : Int); omega⟩ ?_
    rw [gl]
    refine v_sub rfl (by omega) ?_
    refine v_ret rfl rfl ?_
    exact qeq k (by omega)
  induction n with
  | zero =>
    intro m h1 h2 k
    refine v_load rfl rfl ⟨rfl, Nat.le_of_ble_eq_true rfl⟩ ?_
    refine v_load rfl rfl ⟨rfl, Nat.le_of_ble_eq_true rfl⟩ ?_
    refine v_getx rfl rfl (h4) ?_
    refine v_ige rfl (fun _ => ?_) (fun h => absurd h (by omega))
    exact fin m h2 k
  | succ n ih =>
    intro m h1 h2 k
    by_cases c : lnB t i + (m : Int) < (t.length : Int)
    · unfold blF at k
      by_cases c2 : tb t (lnB t i + (m : Int)) = 32
      · rw [if_pos c2] at k
        have ihh := ih (m + 1) (by omega) (by omega) k
        rw [show ((m + 1 : Nat) : Int) = (m : Int) + 1 by omega, ← Int.add_assoc] at ihh
        refine v_load rfl rfl ⟨rfl, Nat.le_of_ble_eq_true rfl⟩ ?_
        refine v_load rfl rfl ⟨rfl, Nat.le_of_ble_eq_true rfl⟩ ?_
        refine v_getx rfl rfl (h4) ?_
        refine v_ige rfl (fun h => absurd h (by omega)) (fun _ => ?_)
        refine v_load rfl rfl ⟨rfl, Nat.le_of_ble_eq_true rfl⟩ ?_
        refine v_load rfl rfl ⟨rfl, Nat.le_of_ble_eq_true rfl⟩ ?_
        refine v_callr rfl ⟨Nat.le_of_ble_eq_true rfl, Nat.le_of_ble_eq_true rfl, rfl, Nat.le_of_ble_eq_true rfl, rfl⟩ ?_
        refine R_byteIn hS.1 ⟨by omega, by omega⟩ ?_
        refine v_push rfl ?_
        refine v_ine rfl (fun h => absurd h (by omega)) (fun _ => ?_)
        refine v_load rfl rfl ⟨rfl, Nat.le_of_ble_eq_true rfl⟩ ?_
        refine v_push rfl ?_
        refine v_add rfl (by omega) ?_
        refine v_store rfl ⟨rfl, Nat.le_of_ble_eq_true rfl, Nat.le_of_ble_eq_true rfl, rfl⟩ rfl ?_
        refine v_goto rfl ?_
        exact ihh
      · rw [if_neg c2] at k
        refine v_load rfl rfl ⟨rfl, Nat.le_of_ble_eq_true rfl⟩ ?_
        refine v_load rfl rfl ⟨rfl, Nat.le_of_ble_eq_true rfl⟩ ?_
        refine v_getx rfl rfl (h4) ?_
        refine v_ige rfl (fun h => absurd h (by omega)) (fun _ => ?_)
        refine v_load rfl rfl ⟨rfl, Nat.le_of_ble_eq_true rfl⟩ ?_
        refine v_load rfl rfl ⟨rfl, Nat.le_of_ble_eq_true rfl⟩ ?_
        refine v_callr rfl ⟨Nat.le_of_ble_eq_true rfl, Nat.le_of_ble_eq_true rfl, rfl, Nat.le_of_ble_eq_true rfl, rfl⟩ ?_
        refine R_byteIn hS.1 ⟨by omega, by omega⟩ ?_
        refine v_push rfl ?_
        refine v_ine rfl (fun _ => ?_) (fun h => absurd h (by omega))
        exact fin m h2 k
    · rw [blF_more (by omega) _ _ (by omega)] at k
      refine v_load rfl rfl ⟨rfl, Nat.le_of_ble_eq_true rfl⟩ ?_
      refine v_load rfl rfl ⟨rfl, Nat.le_of_ble_eq_true rfl⟩ ?_
      refine v_getx rfl rfl (h4) ?_
      refine v_ige rfl (fun _ => ?_) (fun h => absurd h (by omega))
      exact fin m h2 k
theorem R_blanks {i : Int} (hC : RS s M) (k : Q (some (0, blanksQ s i)) M) : v_call L (d + 10) 284 [(2, 77), (0, i)] M Q := by
  have hS := hC.1
  have h301 := lns_301 (t := s.1.1) hS.1.2.1
  have r := lnB_rng (t := s.1.1) (i := i)
  unfold blanksQ at k
  refine v_in ?_
  by_cases c : 0 ≤ i ∧ i ≤ ((lns s.1.1).length : Int) - 1
  · rw [if_pos ⟨c.1, by omega⟩] at k
    have hi : 0 ≤ i ∧ i < ((lns s.1.1).length : Int) := ⟨c.1, by omega⟩
    have gl := RLN_at hS hi
    have hne : ¬ lnB s.1.1 i = -1 := fun z => (r.2.2.mp z) hi
    refine v_load rfl rfl ⟨rfl, Nat.le_of_ble_eq_true rfl⟩ ?_
    refine v_load rfl rfl ⟨rfl, Nat.le_of_ble_eq_true rfl⟩ ?_
    refine v_callr rfl ⟨Nat.le_of_ble_eq_true rfl, Nat.le_of_ble_eq_true rfl, rfl, Nat.le_of_ble_eq_true rfl, rfl⟩ ?_
    refine R_isLine hS ?_
    rw [b2i_t (decide_eq_true c)]
    refine v_ifne rfl (fun _ => ?_) (fun h => absurd h (by decide))
    refine v_load rfl rfl ⟨rfl, Nat.le_of_ble_eq_true rfl⟩ ?_
    refine v_getp rfl rfl rfl ?_
    refine v_load rfl rfl ⟨rfl, Nat.le_of_ble_eq_true rfl⟩ ?_
    refine v_ald9 rfl rfl ⟨by omega, by show _ < (301 : Int); omega⟩ ?_
    rw [gl]
    refine v_store rfl ⟨rfl, Nat.le_of_ble_eq_true rfl, Nat.le_of_ble_eq_true rfl, rfl⟩ rfl ?_
    have := R_blanks_loop (L := L) (d := d + 7) hS hi s.1.1.length 0 (by omega) (by omega) k
    rw [show lnB s.1.1 i + ((0 : Nat) : Int) = lnB s.1.1 i by omega] at this
    exact this
  · rw [if_neg (by omega)] at k
    refine v_load rfl rfl ⟨rfl, Nat.le_of_ble_eq_true rfl⟩ ?_
    refine v_load rfl rfl ⟨rfl, Nat.le_of_ble_eq_true rfl⟩ ?_
    refine v_callr rfl ⟨Nat.le_of_ble_eq_true rfl, Nat.le_of_ble_eq_true rfl, rfl, Nat.le_of_ble_eq_true rfl, rfl⟩ ?_
    refine R_isLine hS ?_
    rw [b2i_f (by simpa using c)]
    refine v_ifne rfl (fun h => absurd h (by decide)) (fun _ => ?_)
    refine v_push rfl ?_
    refine v_ret rfl rfl ?_
    exact k
end Q5
