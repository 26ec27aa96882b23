/-! QUESTIONS: uses -/
section Q7
variable {L d n : Nat} {M : zM} {Q : Option zV → zM → Prop} {s : zA} {t : List Int}
noncomputable def usesQ (s : zA) (i : Int) : Int := if (nd (NT (toks s.1.1)) i).1 = 12 then ((TI s.1.1 (nd (NT (toks s.1.1)) i).2.2.2.2.2.1 (toks s.1.1).length).length : Int) else -1
theorem S_uses_loop {i : Int} (hV : BV M 2 t 0) (hR : RT (toks t) M) (hN : TN (toks t) M) (hl : t.length ≤ 300) (k : Q (some (0, ((TI t (nd (NT (toks t)) i).2.2.2.2.2.1 (toks t).length).length : Int))) M) : ∀ (n j : Nat), n = (toks t).length - j → j ≤ (toks t).length → v_wp L (d + 4) 168 19 [(2, 1), (0, i), (0, ((TI t (nd (NT (toks t)) i).2.2.2.2.2.1 j).length : Int)), (0, (j : Int))] [] M Q := by
  intro n
  have hlt : (toks t).length ≤ 300 := hR.2.1
  induction n with
  | zero =>
    intro j hn hj
    have ej : j = (toks t).length := by omega
    subst ej
    refine v_load rfl rfl ⟨rfl, Nat.le_of_ble_eq_true rfl⟩ ?_
    refine v_load rfl rfl ⟨rfl, Nat.le_of_ble_eq_true rfl⟩ ?_
    refine v_getp rfl rfl rfl ?_
    refine v_callr rfl ⟨Nat.le_of_ble_eq_true rfl, Nat.le_of_ble_eq_true rfl, rfl, Nat.le_of_ble_eq_true rfl, rfl⟩ ?_
    refine S_tkSize hR ?_
    refine v_ige rfl (fun _ => ?_) (fun h => absurd h (by omega))
    refine v_load rfl rfl ⟨rfl, Nat.le_of_ble_eq_true rfl⟩ ?_
    refine v_ret rfl rfl ?_
    exact k
  | succ n ih =>
    intro j hn hj
    have hll : (TI t (nd (NT (toks t)) i).2.2.2.2.2.1 j).length ≤ j := flt_len _ j
    have ihh := ih (j + 1) (by omega) (by omega)
    rw [show ((j + 1 : Nat) : Int) = (j : Int) + 1 by omega] at ihh
    by_cases c : usT t (nd (NT (toks t)) i).2.2.2.2.2.1 j = true
    · rw [TI_y c, List.length_append, show (((TI t (nd (NT (toks t)) i).2.2.2.2.2.1 j).length + [j].length : Nat) : Int) = ((TI t (nd (NT (toks t)) i).2.2.2.2.2.1 j).length : Int) + 1 by rw [List.length_singleton]; omega] at ihh
      refine v_load rfl rfl ⟨rfl, Nat.le_of_ble_eq_true rfl⟩ ?_
      refine v_load rfl rfl ⟨rfl, Nat.le_of_ble_eq_true rfl⟩ ?_
      refine v_getp rfl rfl rfl ?_
      refine v_callr rfl ⟨Nat.le_of_ble_eq_true rfl, Nat.le_of_ble_eq_true rfl, rfl, Nat.le_of_ble_eq_true rfl, rfl⟩ ?_
      refine S_tkSize hR ?_
      refine v_ige rfl (fun h => absurd h (by omega)) (fun _ => ?_)
      refine v_load rfl rfl ⟨rfl, Nat.le_of_ble_eq_true rfl⟩ ?_
      refine v_load rfl rfl ⟨rfl, Nat.le_of_ble_eq_true rfl⟩ ?_
      refine v_load rfl rfl ⟨rfl, Nat.le_of_ble_eq_true rfl⟩ ?_
      refine v_getp rfl rfl rfl ?_
      refine v_load rfl rfl ⟨rfl, Nat.le_of_ble_eq_true rfl⟩ ?_
      refine v_callr rfl ⟨Nat.le_of_ble_eq_true rfl, Nat.le_of_ble_eq_true rfl, rfl, Nat.le_of_ble_eq_true rfl, rfl⟩ ?_
      refine S_ndFrom hN.1 ?_
      refine v_callr rfl ⟨Nat.le_of_ble_eq_true rfl, Nat.le_of_ble_eq_true rfl, rfl, Nat.le_of_ble_eq_true rfl, rfl⟩ ?_
      refine S_isUse (by omega) hV hR hN hl ?_
      rw [b2i_t c]
      refine v_ifeq rfl (fun h => absurd h (by decide)) (fun _ => ?_)
      refine v_iinc rfl rfl rfl (by omega) rfl ?_
      refine v_iinc rfl rfl rfl (by omega) rfl ?_
      refine v_goto rfl ?_
      exact ihh
    · rw [TI_n c] at ihh
      refine v_load rfl rfl ⟨rfl, Nat.le_of_ble_eq_true rfl⟩ ?_
      refine v_load rfl rfl ⟨rfl, Nat.le_of_ble_eq_true rfl⟩ ?_
      refine v_getp rfl rfl rfl ?_
      refine v_callr rfl ⟨Nat.le_of_ble_eq_true rfl, Nat.le_of_ble_eq_true rfl, rfl, Nat.le_of_ble_eq_true rfl, rfl⟩ ?_
      refine S_tkSize hR ?_
      refine v_ige rfl (fun h => absurd h (by omega)) (fun _ => ?_)
      refine v_load rfl rfl ⟨rfl, Nat.le_of_ble_eq_true rfl⟩ ?_
      refine v_load rfl rfl ⟨rfl, Nat.le_of_ble_eq_true rfl⟩ ?_
      refine v_load rfl rfl ⟨rfl, Nat.le_of_ble_eq_true rfl⟩ ?_
      refine v_getp rfl rfl rfl ?_
      refine v_load rfl rfl ⟨rfl, Nat.le_of_ble_eq_true rfl⟩ ?_
      refine v_callr rfl ⟨Nat.le_of_ble_eq_true rfl, Nat.le_of_ble_eq_true rfl, rfl, Nat.le_of_ble_eq_true rfl, rfl⟩ ?_
      refine S_ndFrom hN.1 ?_
      refine v_callr rfl ⟨Nat.le_of_ble_eq_true rfl, Nat.le_of_ble_eq_true rfl, rfl, Nat.le_of_ble_eq_true rfl, rfl⟩ ?_
      refine S_isUse (by omega) hV hR hN hl ?_
      rw [b2i_f c]
      refine v_ifeq rfl (fun _ => ?_) (fun h => absurd h (by decide))
      refine v_iinc rfl rfl rfl (by omega) rfl ?_
      refine v_goto rfl ?_
      exact ihh
theorem S_uses {i : Int} (hC : CS s M) (hB : BS s n) (k : Q (some (0, usesQ s i)) M) : v_call L (d + 10) 168 [(2, 1), (0, i)] M Q := by
  obtain ⟨h1, -, -, -, h5, h6, -⟩ := id hC
  have hl := hB.1
  unfold usesQ at k
  refine v_in ?_
  by_cases c : (nd (NT (toks s.1.1)) i).1 = 12
  · rw [if_pos c] at k
    refine v_load rfl rfl ⟨rfl, Nat.le_of_ble_eq_true rfl⟩ ?_
    refine v_getp rfl rfl rfl ?_
    refine v_load rfl rfl ⟨rfl, Nat.le_of_ble_eq_true rfl⟩ ?_
    refine v_push rfl ?_
    refine v_callr rfl ⟨Nat.le_of_ble_eq_true rfl, Nat.le_of_ble_eq_true rfl, rfl, Nat.le_of_ble_eq_true rfl, rfl⟩ ?_
    refine S_ndIsOf h6.1 (by decide) ?_
    rw [b2i_t (decide_eq_true c)]
    refine v_ifne rfl (fun _ => ?_) (fun h => absurd h (by decide))
    refine v_push rfl ?_
    refine v_store rfl ⟨rfl, Nat.le_of_ble_eq_true rfl, Nat.le_of_ble_eq_true rfl, rfl⟩ rfl ?_
    refine v_push rfl ?_
    refine v_store rfl ⟨rfl, Nat.le_of_ble_eq_true rfl, Nat.le_of_ble_eq_true rfl, rfl⟩ rfl ?_
    exact S_uses_loop (d := d + 6) h1 h5 h6 hl k _ 0 rfl (Nat.zero_le _)
  · rw [if_neg c] at k
    refine v_load rfl rfl ⟨rfl, Nat.le_of_ble_eq_true rfl⟩ ?_
    refine v_getp rfl rfl rfl ?_
    refine v_load rfl rfl ⟨rfl, Nat.le_of_ble_eq_true rfl⟩ ?_
    refine v_push rfl ?_
    refine v_callr rfl ⟨Nat.le_of_ble_eq_true rfl, Nat.le_of_ble_eq_true rfl, rfl, Nat.le_of_ble_eq_true rfl, rfl⟩ ?_
    refine S_ndIsOf h6.1 (by decide) ?_
    rw [b2i_f (by simpa using c)]
    refine v_ifne rfl (fun h => absurd h (by decide)) (fun _ => ?_)
    refine v_push rfl ?_
    refine v_ret rfl rfl ?_
    exact k
theorem R_uses {i : Int} (hC : RS s M) (hi : z_i32 i) (k : Q (some (0, usesQ s i)) M) : v_call L (d + 10) 301 [(2, 77), (0, i)] M Q := by
  have hS := hC.1
  unfold usesQ at k
  refine v_in ?_
  by_cases c : (nd (NT (toks s.1.1)) i).1 = 12
  · rw [if_pos c] at k
    refine v_load rfl rfl ⟨rfl, Nat.le_of_ble_eq_true rfl⟩ ?_
    refine v_load rfl rfl ⟨rfl, Nat.le_of_ble_eq_true rfl⟩ ?_
    refine v_push rfl ?_
    refine v_callr rfl ⟨Nat.le_of_ble_eq_true rfl, Nat.le_of_ble_eq_true rfl, rfl, Nat.le_of_ble_eq_true rfl, rfl⟩ ?_
    refine R_isOf hS hi (by decide) ?_
    rw [b2i_t (decide_eq_true c)]
    refine v_ifeq rfl (fun h => absurd h (by decide)) (fun _ => ?_)
    refine v_load rfl rfl ⟨rfl, Nat.le_of_ble_eq_true rfl⟩ ?_
    refine v_load rfl rfl ⟨rfl, Nat.le_of_ble_eq_true rfl⟩ ?_
    refine v_callr rfl ⟨Nat.le_of_ble_eq_true rfl, Nat.le_of_ble_eq_true rfl, rfl, Nat.le_of_ble_eq_true rfl, rfl⟩ ?_
    refine R_usesOf hS c ?_
    refine v_goto rfl ?_
    refine v_ret rfl rfl ?_
    exact k
  · rw [if_neg c] at k
    refine v_load rfl rfl ⟨rfl, Nat.le_of_ble_eq_true rfl⟩ ?_
    refine v_load rfl rfl ⟨rfl, Nat.le_of_ble_eq_true rfl⟩ ?_
    refine v_push rfl ?_
    refine v_callr rfl ⟨Nat.le_of_ble_eq_true rfl, Nat.le_of_ble_eq_true rfl, rfl, Nat.le_of_ble_eq_true rfl, rfl⟩ ?_
    refine R_isOf hS hi (by decide) ?_
    rw [b2i_f (by simpa using c)]
    refine v_ifeq rfl (fun _ => ?_) (fun h => absurd h (by decide))
    refine v_push rfl ?_
    refine v_ret rfl rfl ?_
    exact k
end Q7
