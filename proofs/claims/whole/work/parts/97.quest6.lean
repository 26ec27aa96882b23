/-! QUESTIONS: lost -/
section Q6
variable {L d n : Nat} {M : zM} {Q : Option zV → zM → Prop} {s : zA} {t : List Int}
noncomputable def lostQ (s : zA) (so : Int) : Int := if 0 ≤ so ∧ so ≤ 17 then s.2.2.1.2.2 so else -1
theorem S_lostOf {O : Nat → Int} {Kp : Nat → Bool} {Ls : Int → Int} {nT nN : Nat} {so : Int} (h7 : KPC O Kp Ls nT nN M) (k2 : Q (some (0, if 0 ≤ so ∧ so ≤ 17 then Ls so else -1)) M) : v_call L (d + 1) 24 [(2, 62), (0, so)] M Q := by
  have h74 : (z_sC L 74).2 = 18 := rfl
  refine v_in ?_
  by_cases c : 0 ≤ so ∧ so ≤ 17
  · rw [if_pos c] at k2
    have g := h7.2.2.1 so (by omega) (by omega)
    refine v_load rfl rfl ⟨rfl, Nat.le_of_ble_eq_true rfl⟩ ?_
    refine v_iflt rfl (fun h => absurd h (by omega)) (fun _ => ?_)
    refine v_load rfl rfl ⟨rfl, Nat.le_of_ble_eq_true rfl⟩ ?_
    refine v_load rfl rfl ⟨rfl, Nat.le_of_ble_eq_true rfl⟩ ?_
    refine v_getp rfl rfl rfl ?_
    refine v_len rfl ⟨Nat.le_of_ble_eq_true rfl, Nat.le_of_ble_eq_true rfl⟩ rfl ?_
    refine v_ige rfl (fun h => absurd h (by omega)) (fun _ => ?_)
    refine v_load rfl rfl ⟨rfl, Nat.le_of_ble_eq_true rfl⟩ ?_
    refine v_getp rfl rfl rfl ?_
    refine v_load rfl rfl ⟨rfl, Nat.le_of_ble_eq_true rfl⟩ ?_
    refine v_ald9 rfl rfl ⟨by omega, by show _ < (18 : Int); omega⟩ ?_
    refine v_goto rfl ?_
    refine v_ret rfl rfl ?_
    rw [g]; exact k2
  · rw [if_neg c] at k2
    refine v_load rfl rfl ⟨rfl, Nat.le_of_ble_eq_true rfl⟩ ?_
    refine v_iflt rfl (fun c1 => ?_) (fun c1 => ?_)
    · refine v_push rfl ?_
      refine v_ret rfl rfl ?_
      first | exact k2 | (exfalso; omega)
    · refine v_load rfl rfl ⟨rfl, Nat.le_of_ble_eq_true rfl⟩ ?_
      refine v_load rfl rfl ⟨rfl, Nat.le_of_ble_eq_true rfl⟩ ?_
      refine v_getp rfl rfl rfl ?_
      refine v_len rfl ⟨Nat.le_of_ble_eq_true rfl, Nat.le_of_ble_eq_true rfl⟩ rfl ?_
      refine v_ige rfl (fun c2 => ?_) (fun c2 => ?_)
      · refine v_push rfl ?_
        refine v_ret rfl rfl ?_
        first | exact k2 | (exfalso; omega)
      · first | exact k2 | (exfalso; omega)
theorem S_lost {so : Int} (hC : CS s M) (k : Q (some (0, lostQ s so)) M) : v_call L (d + 10) 163 [(2, 1), (0, so)] M Q := by
  refine v_in ?_
  refine v_load rfl rfl ⟨rfl, Nat.le_of_ble_eq_true rfl⟩ ?_
  refine v_getp rfl rfl rfl ?_
  refine v_load rfl rfl ⟨rfl, Nat.le_of_ble_eq_true rfl⟩ ?_
  refine v_callr rfl ⟨Nat.le_of_ble_eq_true rfl, Nat.le_of_ble_eq_true rfl, rfl, Nat.le_of_ble_eq_true rfl, rfl⟩ ?_
  refine S_lostOf hC.2.2.2.2.2.2.1 ?_
  refine v_ret rfl rfl ?_
  exact k
theorem R_lost {so : Int} (hC : RS s M) (k : Q (some (0, lostQ s so)) M) : v_call L (d + 10) 294 [(2, 77), (0, so)] M Q := by
  have hK := hC.2.2.2.2.1
  unfold lostQ at k
  refine v_in ?_
  by_cases c : 0 ≤ so ∧ so ≤ 17
  · rw [if_pos c] at k
    have g := hK.2.2.1 so (by omega) (by omega)
    refine v_load rfl rfl ⟨rfl, Nat.le_of_ble_eq_true rfl⟩ ?_
    refine v_callr rfl ⟨Nat.le_of_ble_eq_true rfl, Nat.le_of_ble_eq_true rfl, rfl, Nat.le_of_ble_eq_true rfl, rfl⟩ ?_
    refine R_isSort ?_
    rw [b2i_t (decide_eq_true c)]
    refine v_ifeq rfl (fun h => absurd h (by decide)) (fun _ => ?_)
    refine v_load rfl rfl ⟨rfl, Nat.le_of_ble_eq_true rfl⟩ ?_
    refine v_getp rfl rfl rfl ?_
    refine v_load rfl rfl ⟨rfl, Nat.le_of_ble_eq_true rfl⟩ ?_
    refine v_ald9 rfl rfl ⟨by omega, by show _ < (18 : Int); omega⟩ ?_
    refine v_goto rfl ?_
    refine v_ret rfl rfl ?_
    rw [g]; exact k
  · rw [if_neg c] at k
    refine v_load rfl rfl ⟨rfl, Nat.le_of_ble_eq_true rfl⟩ ?_
    refine v_callr rfl ⟨Nat.le_of_ble_eq_true rfl, Nat.le_of_ble_eq_true rfl, rfl, Nat.le_of_ble_eq_true rfl, rfl⟩ ?_
    refine R_isSort ?_
    rw [b2i_f (by simpa using c)]
    refine v_ifeq rfl (fun _ => ?_) (fun h => absurd h (by decide))
    refine v_push rfl ?_
    refine v_ret rfl rfl ?_
    exact k
end Q6
