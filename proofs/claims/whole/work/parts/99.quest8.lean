/-! QUESTIONS: greatest -/
section Q8
variable {L d n : Nat} {M : zM} {Q : Option zV → zM → Prop} {s : zA} {t : List Int}
noncomputable def gr (t : List Int) (Kp : Nat → Bool) : Nat → Int
  | 0 => -1
  | n + 1 => if Kp n = true ∧ (gr t Kp n = -1 ∨ (nd (NT (toks t)) (gr t Kp n)).2.2.2.2.2.2.1 < (nd (NT (toks t)) (n : Int)).2.2.2.2.2.2.1) then (n : Int) else gr t Kp n
theorem gr_rng {Kp : Nat → Bool} : ∀ n, -1 ≤ gr t Kp n ∧ gr t Kp n < (n : Int)
  | 0 => ⟨Int.le_refl _, by show (-1 : Int) < 0; decide⟩
  | n + 1 => by
    have := gr_rng (Kp := Kp) n
    unfold gr
    split <;> omega
noncomputable def noT (t : List Int) (g f : Int) : Int := if g = -1 then -2 else if f = 0 then g else (nd (NT (toks t)) g).2.2.2.2.2.2.1
noncomputable def greatQ (s : zA) (f : Int) : Int := if 0 ≤ f ∧ f ≤ 1 then noT s.1.1 (gr s.1.1 s.2.2.1.2.1 (NT (toks s.1.1)).length) f else -1
theorem S_nodeOrTokens {g f : Int} (hN : RN (NT (toks t)) M) (k : Q (some (0, noT t g f)) M) : v_call L (d + 2) 160 [(2, 1), (0, g), (0, f)] M Q := by
  unfold noT at k
  refine v_in ?_
  refine v_load rfl rfl ⟨rfl, Nat.le_of_ble_eq_true rfl⟩ ?_
  refine v_push rfl ?_
  refine v_ine rfl (fun c1 => ?_) (fun c1 => ?_)
  · refine v_load rfl rfl ⟨rfl, Nat.le_of_ble_eq_true rfl⟩ ?_
    refine v_ifne rfl (fun c2 => ?_) (fun c2 => ?_)
    · refine v_load rfl rfl ⟨rfl, Nat.le_of_ble_eq_true rfl⟩ ?_
      refine v_getp rfl rfl rfl ?_
      refine v_load rfl rfl ⟨rfl, Nat.le_of_ble_eq_true rfl⟩ ?_
      refine v_callr rfl ⟨Nat.le_of_ble_eq_true rfl, Nat.le_of_ble_eq_true rfl, rfl, Nat.le_of_ble_eq_true rfl, rfl⟩ ?_
      refine S_ndTaken hN ?_
      refine v_ret rfl rfl ?_
      exact qeq k (by repeat' split; all_goals omega)
    · refine v_load rfl rfl ⟨rfl, Nat.le_of_ble_eq_true rfl⟩ ?_
      refine v_goto rfl ?_
      refine v_ret rfl rfl ?_
      exact qeq k (by repeat' split; all_goals omega)
  · refine v_push rfl ?_
    refine v_ret rfl rfl ?_
    exact qeq k (by repeat' split; all_goals omega)
theorem S_great_loop {f : Int} {O : Nat → Int} {Kp : Nat → Bool} {Ls : Int → Int} {nT : Nat} (hN : RN (NT (toks t)) M) (hK : KPC O Kp Ls nT (NT (toks t)).length M) (k : Q (some (0, noT t (gr t Kp (NT (toks t)).length) f)) M) : ∀ (n j : Nat), n = (NT (toks t)).length - j → j ≤ (NT (toks t)).length → v_wp L (d + 4) 164 15 [(2, 1), (0, f), (0, gr t Kp j), (0, (j : Int))] [] M Q := by
  intro n
  have hl : (NT (toks t)).length ≤ 1216 := hN.2.1
  induction n with
  | zero =>
    intro j hn hj
    have ej : j = (NT (toks t)).length := by omega
    subst ej
    refine v_load rfl rfl ⟨rfl, Nat.le_of_ble_eq_true rfl⟩ ?_
    refine v_load rfl rfl ⟨rfl, Nat.le_of_ble_eq_true rfl⟩ ?_
    refine v_getp rfl rfl rfl ?_
    refine v_callr rfl ⟨Nat.le_of_ble_eq_true rfl, Nat.le_of_ble_eq_true rfl, rfl, Nat.le_of_ble_eq_true rfl, rfl⟩ ?_
    refine S_ndSize hN ?_
    refine v_ige rfl (fun _ => ?_) (fun h => absurd h (by omega))
    refine v_load rfl rfl ⟨rfl, Nat.le_of_ble_eq_true rfl⟩ ?_
    refine v_load rfl rfl ⟨rfl, Nat.le_of_ble_eq_true rfl⟩ ?_
    refine v_load rfl rfl ⟨rfl, Nat.le_of_ble_eq_true rfl⟩ ?_
    refine v_callr rfl ⟨Nat.le_of_ble_eq_true rfl, Nat.le_of_ble_eq_true rfl, rfl, Nat.le_of_ble_eq_true rfl, rfl⟩ ?_
    refine S_nodeOrTokens hN ?_
    refine v_ret rfl rfl ?_
    exact k
  | succ n ih =>
    intro j hn hj
    have ihh := ih (j + 1) (by omega) (by omega)
    have h01 := b2i_01 (Kp j)
    have e : gr t Kp (j + 1) = if Kp j = true ∧ (gr t Kp j = -1 ∨ (nd (NT (toks t)) (gr t Kp j)).2.2.2.2.2.2.1 < (nd (NT (toks t)) (j : Int)).2.2.2.2.2.2.1) then (j : Int) else gr t Kp j := rfl
    rw [e, show ((j + 1 : Nat) : Int) = (j : Int) + 1 by omega] at ihh
    by_cases c : Kp j = true
    · refine v_load rfl rfl ⟨rfl, Nat.le_of_ble_eq_true rfl⟩ ?_
      refine v_load rfl rfl ⟨rfl, Nat.le_of_ble_eq_true rfl⟩ ?_
      refine v_getp rfl rfl rfl ?_
      refine v_callr rfl ⟨Nat.le_of_ble_eq_true rfl, Nat.le_of_ble_eq_true rfl, rfl, Nat.le_of_ble_eq_true rfl, rfl⟩ ?_
      refine S_ndSize hN ?_
      refine v_ige rfl (fun h => absurd h (by omega)) (fun _ => ?_)
      refine v_load rfl rfl ⟨rfl, Nat.le_of_ble_eq_true rfl⟩ ?_
      refine v_getp rfl rfl rfl ?_
      refine v_load rfl rfl ⟨rfl, Nat.le_of_ble_eq_true rfl⟩ ?_
      refine v_callr rfl ⟨Nat.le_of_ble_eq_true rfl, Nat.le_of_ble_eq_true rfl, rfl, Nat.le_of_ble_eq_true rfl, rfl⟩ ?_
      refine S_isNodeKept hN hK ⟨by omega, by omega⟩ ?_
      rw [Int.toNat_natCast, b2i_t c]
      refine v_ifeq rfl (fun h => absurd h (by decide)) (fun _ => ?_)
      refine v_load rfl rfl ⟨rfl, Nat.le_of_ble_eq_true rfl⟩ ?_
      refine v_push rfl ?_
      refine v_ieq rfl (fun c1 => ?_) (fun c1 => ?_)
      · refine v_load rfl rfl ⟨rfl, Nat.le_of_ble_eq_true rfl⟩ ?_
        refine v_store rfl ⟨rfl, Nat.le_of_ble_eq_true rfl, Nat.le_of_ble_eq_true rfl, rfl⟩ rfl ?_
        refine v_iinc rfl rfl rfl (by omega) rfl ?_
        refine v_goto rfl ?_
        rw [if_pos ⟨c, Or.inl c1⟩] at ihh; exact ihh
      · refine v_load rfl rfl ⟨rfl, Nat.le_of_ble_eq_true rfl⟩ ?_
        refine v_getp rfl rfl rfl ?_
        refine v_load rfl rfl ⟨rfl, Nat.le_of_ble_eq_true rfl⟩ ?_
        refine v_callr rfl ⟨Nat.le_of_ble_eq_true rfl, Nat.le_of_ble_eq_true rfl, rfl, Nat.le_of_ble_eq_true rfl, rfl⟩ ?_
        refine S_ndTaken hN ?_
        refine v_load rfl rfl ⟨rfl, Nat.le_of_ble_eq_true rfl⟩ ?_
        refine v_getp rfl rfl rfl ?_
        refine v_load rfl rfl ⟨rfl, Nat.le_of_ble_eq_true rfl⟩ ?_
        refine v_callr rfl ⟨Nat.le_of_ble_eq_true rfl, Nat.le_of_ble_eq_true rfl, rfl, Nat.le_of_ble_eq_true rfl, rfl⟩ ?_
        refine S_ndTaken hN ?_
        refine v_ile rfl (fun c2 => ?_) (fun c2 => ?_)
        · refine v_iinc rfl rfl rfl (by omega) rfl ?_
          refine v_goto rfl ?_
          rw [if_neg (fun z => by rcases z.2 with y | y; exact c1 y; omega)] at ihh; exact ihh
        · refine v_load rfl rfl ⟨rfl, Nat.le_of_ble_eq_true rfl⟩ ?_
          refine v_store rfl ⟨rfl, Nat.le_of_ble_eq_true rfl, Nat.le_of_ble_eq_true rfl, rfl⟩ rfl ?_
          refine v_iinc rfl rfl rfl (by omega) rfl ?_
          refine v_goto rfl ?_
          rw [if_pos ⟨c, Or.inr (by omega)⟩] at ihh; exact ihh
    · rw [if_neg (fun z => c z.1)] at ihh
      refine v_load rfl rfl ⟨rfl, Nat.le_of_ble_eq_true rfl⟩ ?_
      refine v_load rfl rfl ⟨rfl, Nat.le_of_ble_eq_true rfl⟩ ?_
      refine v_getp rfl rfl rfl ?_
      refine v_callr rfl ⟨Nat.le_of_ble_eq_true rfl, Nat.le_of_ble_eq_true rfl, rfl, Nat.le_of_ble_eq_true rfl, rfl⟩ ?_
      refine S_ndSize hN ?_
      refine v_ige rfl (fun h => absurd h (by omega)) (fun _ => ?_)
      refine v_load rfl rfl ⟨rfl, Nat.le_of_ble_eq_true rfl⟩ ?_
      refine v_getp rfl rfl rfl ?_
      refine v_load rfl rfl ⟨rfl, Nat.le_of_ble_eq_true rfl⟩ ?_
      refine v_callr rfl ⟨Nat.le_of_ble_eq_true rfl, Nat.le_of_ble_eq_true rfl, rfl, Nat.le_of_ble_eq_true rfl, rfl⟩ ?_
      refine S_isNodeKept hN hK ⟨by omega, by omega⟩ ?_
      rw [Int.toNat_natCast, b2i_f c]
      refine v_ifeq rfl (fun _ => ?_) (fun h => absurd h (by decide))
      refine v_iinc rfl rfl rfl (by omega) rfl ?_
      refine v_goto rfl ?_
      exact ihh
theorem S_greatest {f : Int} (hC : CS s M) (k : Q (some (0, greatQ s f)) M) : v_call L (d + 10) 164 [(2, 1), (0, f)] M Q := by
  obtain ⟨-, -, -, -, -, h6, h7, -⟩ := id hC
  unfold greatQ at k
  refine v_in ?_
  by_cases c : 0 ≤ f ∧ f ≤ 1
  · rw [if_pos c] at k
    refine v_load rfl rfl ⟨rfl, Nat.le_of_ble_eq_true rfl⟩ ?_
    refine v_iflt rfl (fun h => absurd h (by omega)) (fun _ => ?_)
    refine v_load rfl rfl ⟨rfl, Nat.le_of_ble_eq_true rfl⟩ ?_
    refine v_push rfl ?_
    refine v_ile rfl (fun _ => ?_) (fun h => absurd h (by omega))
    refine v_push rfl ?_
    refine v_store rfl ⟨rfl, Nat.le_of_ble_eq_true rfl, Nat.le_of_ble_eq_true rfl, rfl⟩ rfl ?_
    refine v_push rfl ?_
    refine v_store rfl ⟨rfl, Nat.le_of_ble_eq_true rfl, Nat.le_of_ble_eq_true rfl, rfl⟩ rfl ?_
    exact S_great_loop (d := d + 6) h6.1 h7 k _ 0 rfl (Nat.zero_le _)
  · rw [if_neg c] at k
    refine v_load rfl rfl ⟨rfl, Nat.le_of_ble_eq_true rfl⟩ ?_
    refine v_iflt rfl (fun c3 => ?_) (fun c3 => ?_)
    · refine v_push rfl ?_
      refine v_ret rfl rfl ?_
      first | exact k | (exfalso; omega)
    · refine v_load rfl rfl ⟨rfl, Nat.le_of_ble_eq_true rfl⟩ ?_
      refine v_push rfl ?_
      refine v_ile rfl (fun c4 => ?_) (fun c4 => ?_)
      · first | exact k | (exfalso; omega)
      · refine v_push rfl ?_
        refine v_ret rfl rfl ?_
        first | exact k | (exfalso; omega)
end Q8
