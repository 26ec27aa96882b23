/-! ACTS: rename, the class -/
section RN1
variable {L d n : Nat} {M : zM} {Q : Option zV → zM → Prop} {s : zA} {t tp : List Int}
noncomputable def bW (p : Prop) [Decidable p] : Int := if p then 1 else 0
theorem S_leafOf {j : Int} (hR : RT (toks t) M) (hN : TN (toks t) M) (hl : t.length ≤ 300) (k : Q (some (0, if 0 ≤ j ∧ j < ((toks t).length : Int) then lf (NT (toks t)) j else -1)) M) : v_call L (d + 1) 97 [(2, 42), (0, j)] M Q := by
  have hlt : (toks t).length ≤ 300 := hR.2.1
  refine v_in ?_
  by_cases c : 0 ≤ j ∧ j < ((toks t).length : Int)
  · rw [if_pos c] at k
    have g := hN.2 j c.1 c.2
    refine v_load rfl rfl ⟨rfl, Nat.le_of_ble_eq_true rfl⟩ ?_
    refine v_iflt rfl (fun c1 => ?_) (fun c1 => ?_)
    · refine v_push rfl ?_
      refine v_ret rfl rfl ?_
      first | exact k | (exfalso; omega)
    · refine v_load rfl rfl ⟨rfl, Nat.le_of_ble_eq_true rfl⟩ ?_
      refine v_load rfl rfl ⟨rfl, Nat.le_of_ble_eq_true rfl⟩ ?_
      refine v_getp rfl rfl rfl ?_
      refine v_callr rfl ⟨Nat.le_of_ble_eq_true rfl, Nat.le_of_ble_eq_true rfl, rfl, Nat.le_of_ble_eq_true rfl, rfl⟩ ?_
      refine S_tkSize hR ?_
      refine v_ige rfl (fun c2 => ?_) (fun c2 => ?_)
      · refine v_push rfl ?_
        refine v_ret rfl rfl ?_
        first | exact k | (exfalso; omega)
      · refine v_load rfl rfl ⟨rfl, Nat.le_of_ble_eq_true rfl⟩ ?_
        refine v_push rfl ?_
        refine v_ige rfl (fun c3 => ?_) (fun c3 => ?_)
        · refine v_push rfl ?_
          refine v_ret rfl rfl ?_
          first | exact k | (exfalso; omega)
        · refine v_load rfl rfl ⟨rfl, Nat.le_of_ble_eq_true rfl⟩ ?_
          refine v_getp rfl rfl rfl ?_
          refine v_load rfl rfl ⟨rfl, Nat.le_of_ble_eq_true rfl⟩ ?_
          refine v_ald9 rfl rfl ⟨by omega, by show _ < (300 : Int); omega⟩ ?_
          rw [g]
          refine v_goto rfl ?_
          refine v_ret rfl rfl ?_
          first | exact k | (exfalso; omega)
  · rw [if_neg c] at k
    refine v_load rfl rfl ⟨rfl, Nat.le_of_ble_eq_true rfl⟩ ?_
    refine v_iflt rfl (fun c4 => ?_) (fun c4 => ?_)
    · refine v_push rfl ?_
      refine v_ret rfl rfl ?_
      first | exact k | (exfalso; omega)
    · refine v_load rfl rfl ⟨rfl, Nat.le_of_ble_eq_true rfl⟩ ?_
      refine v_load rfl rfl ⟨rfl, Nat.le_of_ble_eq_true rfl⟩ ?_
      refine v_getp rfl rfl rfl ?_
      refine v_callr rfl ⟨Nat.le_of_ble_eq_true rfl, Nat.le_of_ble_eq_true rfl, rfl, Nat.le_of_ble_eq_true rfl, rfl⟩ ?_
      refine S_tkSize hR ?_
      refine v_ige rfl (fun c5 => ?_) (fun c5 => ?_)
      · refine v_push rfl ?_
        refine v_ret rfl rfl ?_
        first | exact k | (exfalso; omega)
      · refine v_load rfl rfl ⟨rfl, Nat.le_of_ble_eq_true rfl⟩ ?_
        refine v_push rfl ?_
        refine v_ige rfl (fun c6 => ?_) (fun c6 => ?_)
        · refine v_push rfl ?_
          refine v_ret rfl rfl ?_
          first | exact k | (exfalso; omega)
        · refine v_load rfl rfl ⟨rfl, Nat.le_of_ble_eq_true rfl⟩ ?_
          refine v_getp rfl rfl rfl ?_
          refine v_load rfl rfl ⟨rfl, Nat.le_of_ble_eq_true rfl⟩ ?_
          refine v_ald9 rfl rfl ⟨by omega, by show _ < (300 : Int); omega⟩ ?_
          refine v_goto rfl ?_
          refine v_ret rfl rfl ?_
          first | exact k | (exfalso; omega)
theorem S_same_loop {j q : Int} (hV : BV M 2 t 0) (hR : RT (toks t) M) (hl : t.length ≤ 300) (hd : (tk (toks t) j).2.2.1 - (tk (toks t) j).2.1 = (tk (toks t) q).2.2.1 - (tk (toks t) q).2.1) (k : Q (some (0, if wrd t j = wrd t q then 1 else 0)) M) : ∀ (n i : Nat), (i : Int) + (n : Int) = (tk (toks t) j).2.2.1 - (tk (toks t) j).2.1 → (∀ x : Nat, x < i → tb t ((tk (toks t) j).2.1 + (x : Int)) = tb t ((tk (toks t) q).2.1 + (x : Int))) → v_wp L (d + 2) 71 32 [(2, 36), (0, j), (0, q), (0, (tk (toks t) j).2.2.1 - (tk (toks t) j).2.1), (0, (i : Int))] [] M Q := by
  intro n
  have r1 := tk_rng (t := t) j
  have r2 := tk_rng (t := t) q
  induction n with
  | zero =>
    intro i hi hx
    rw [if_pos (wrd_eq.mpr ⟨hd, fun x hx' => hx x (by omega)⟩)] at k
    refine v_load rfl rfl ⟨rfl, Nat.le_of_ble_eq_true rfl⟩ ?_
    refine v_load rfl rfl ⟨rfl, Nat.le_of_ble_eq_true rfl⟩ ?_
    refine v_ige rfl (fun _ => ?_) (fun h => absurd h (by omega))
    refine v_push rfl ?_
    first | refine v_ret rfl rfl ?_ | refine v_retz rfl (b2i_01 _) ?_ | refine v_retz rfl (by omega) ?_
    exact k
  | succ n ih =>
    intro i hi hx
    by_cases c : tb t ((tk (toks t) j).2.1 + (i : Int)) = tb t ((tk (toks t) q).2.1 + (i : Int))
    · refine v_load rfl rfl ⟨rfl, Nat.le_of_ble_eq_true rfl⟩ ?_
      refine v_load rfl rfl ⟨rfl, Nat.le_of_ble_eq_true rfl⟩ ?_
      refine v_ige rfl (fun h => absurd h (by omega)) (fun _ => ?_)
      refine v_load rfl rfl ⟨rfl, Nat.le_of_ble_eq_true rfl⟩ ?_
      refine v_getp rfl rfl rfl ?_
      refine v_load rfl rfl ⟨rfl, Nat.le_of_ble_eq_true rfl⟩ ?_
      refine v_load rfl rfl ⟨rfl, Nat.le_of_ble_eq_true rfl⟩ ?_
      refine v_callr rfl ⟨Nat.le_of_ble_eq_true rfl, Nat.le_of_ble_eq_true rfl, rfl, Nat.le_of_ble_eq_true rfl, rfl⟩ ?_
      refine S_tkFirst hR ?_
      refine v_load rfl rfl ⟨rfl, Nat.le_of_ble_eq_true rfl⟩ ?_
      refine v_add rfl (by omega) ?_
      refine v_callr rfl ⟨Nat.le_of_ble_eq_true rfl, Nat.le_of_ble_eq_true rfl, rfl, Nat.le_of_ble_eq_true rfl, rfl⟩ ?_
      refine S_atT z_B2 hV ?_
      refine v_load rfl rfl ⟨rfl, Nat.le_of_ble_eq_true rfl⟩ ?_
      refine v_getp rfl rfl rfl ?_
      refine v_load rfl rfl ⟨rfl, Nat.le_of_ble_eq_true rfl⟩ ?_
      refine v_load rfl rfl ⟨rfl, Nat.le_of_ble_eq_true rfl⟩ ?_
      refine v_callr rfl ⟨Nat.le_of_ble_eq_true rfl, Nat.le_of_ble_eq_true rfl, rfl, Nat.le_of_ble_eq_true rfl, rfl⟩ ?_
      refine S_tkFirst hR ?_
      refine v_load rfl rfl ⟨rfl, Nat.le_of_ble_eq_true rfl⟩ ?_
      refine v_add rfl (by omega) ?_
      refine v_callr rfl ⟨Nat.le_of_ble_eq_true rfl, Nat.le_of_ble_eq_true rfl, rfl, Nat.le_of_ble_eq_true rfl, rfl⟩ ?_
      refine S_atT z_B2 hV ?_
      refine v_ieq rfl (fun _ => ?_) (fun h => absurd h (absurd c h))
      refine v_iinc rfl rfl rfl (by omega) rfl ?_
      refine v_goto rfl ?_
      exact ih (i + 1) (by omega) (fun x hx' => by by_cases e : x = i; (subst e; exact c); exact hx x (by omega))
    · rw [if_neg (fun z => c ((wrd_eq.mp z).2 i (by omega)))] at k
      refine v_load rfl rfl ⟨rfl, Nat.le_of_ble_eq_true rfl⟩ ?_
      refine v_load rfl rfl ⟨rfl, Nat.le_of_ble_eq_true rfl⟩ ?_
      refine v_ige rfl (fun h => absurd h (by omega)) (fun _ => ?_)
      refine v_load rfl rfl ⟨rfl, Nat.le_of_ble_eq_true rfl⟩ ?_
      refine v_getp rfl rfl rfl ?_
      refine v_load rfl rfl ⟨rfl, Nat.le_of_ble_eq_true rfl⟩ ?_
      refine v_load rfl rfl ⟨rfl, Nat.le_of_ble_eq_true rfl⟩ ?_
      refine v_callr rfl ⟨Nat.le_of_ble_eq_true rfl, Nat.le_of_ble_eq_true rfl, rfl, Nat.le_of_ble_eq_true rfl, rfl⟩ ?_
      refine S_tkFirst hR ?_
      refine v_load rfl rfl ⟨rfl, Nat.le_of_ble_eq_true rfl⟩ ?_
      refine v_add rfl (by omega) ?_
      refine v_callr rfl ⟨Nat.le_of_ble_eq_true rfl, Nat.le_of_ble_eq_true rfl, rfl, Nat.le_of_ble_eq_true rfl, rfl⟩ ?_
      refine S_atT z_B2 hV ?_
      refine v_load rfl rfl ⟨rfl, Nat.le_of_ble_eq_true rfl⟩ ?_
      refine v_getp rfl rfl rfl ?_
      refine v_load rfl rfl ⟨rfl, Nat.le_of_ble_eq_true rfl⟩ ?_
      refine v_load rfl rfl ⟨rfl, Nat.le_of_ble_eq_true rfl⟩ ?_
      refine v_callr rfl ⟨Nat.le_of_ble_eq_true rfl, Nat.le_of_ble_eq_true rfl, rfl, Nat.le_of_ble_eq_true rfl, rfl⟩ ?_
      refine S_tkFirst hR ?_
      refine v_load rfl rfl ⟨rfl, Nat.le_of_ble_eq_true rfl⟩ ?_
      refine v_add rfl (by omega) ?_
      refine v_callr rfl ⟨Nat.le_of_ble_eq_true rfl, Nat.le_of_ble_eq_true rfl, rfl, Nat.le_of_ble_eq_true rfl, rfl⟩ ?_
      refine S_atT z_B2 hV ?_
      refine v_ieq rfl (fun h => absurd h (c)) (fun _ => ?_)
      refine v_push rfl ?_
      first | refine v_ret rfl rfl ?_ | refine v_retz rfl (b2i_01 _) ?_ | refine v_retz rfl (by omega) ?_
      exact k
theorem S_isSame {j q : Int} (hV : BV M 2 t 0) (hR : RT (toks t) M) (hl : t.length ≤ 300) (k : Q (some (0, if wrd t j = wrd t q then 1 else 0)) M) : v_call L (d + 2) 71 [(2, 36), (0, j), (0, q)] M Q := by
  have r1 := tk_rng (t := t) j
  have r2 := tk_rng (t := t) q
  refine v_in ?_
  by_cases c : (tk (toks t) j).2.2.1 - (tk (toks t) j).2.1 = (tk (toks t) q).2.2.1 - (tk (toks t) q).2.1
  · refine v_load rfl rfl ⟨rfl, Nat.le_of_ble_eq_true rfl⟩ ?_
    refine v_load rfl rfl ⟨rfl, Nat.le_of_ble_eq_true rfl⟩ ?_
    refine v_callr rfl ⟨Nat.le_of_ble_eq_true rfl, Nat.le_of_ble_eq_true rfl, rfl, Nat.le_of_ble_eq_true rfl, rfl⟩ ?_
    refine S_tkEnd hR ?_
    refine v_load rfl rfl ⟨rfl, Nat.le_of_ble_eq_true rfl⟩ ?_
    refine v_load rfl rfl ⟨rfl, Nat.le_of_ble_eq_true rfl⟩ ?_
    refine v_callr rfl ⟨Nat.le_of_ble_eq_true rfl, Nat.le_of_ble_eq_true rfl, rfl, Nat.le_of_ble_eq_true rfl, rfl⟩ ?_
    refine S_tkFirst hR ?_
    refine v_sub rfl (by omega) ?_
    refine v_store rfl ⟨rfl, Nat.le_of_ble_eq_true rfl, Nat.le_of_ble_eq_true rfl, rfl⟩ rfl ?_
    refine v_load rfl rfl ⟨rfl, Nat.le_of_ble_eq_true rfl⟩ ?_
    refine v_load rfl rfl ⟨rfl, Nat.le_of_ble_eq_true rfl⟩ ?_
    refine v_load rfl rfl ⟨rfl, Nat.le_of_ble_eq_true rfl⟩ ?_
    refine v_callr rfl ⟨Nat.le_of_ble_eq_true rfl, Nat.le_of_ble_eq_true rfl, rfl, Nat.le_of_ble_eq_true rfl, rfl⟩ ?_
    refine S_tkEnd hR ?_
    refine v_load rfl rfl ⟨rfl, Nat.le_of_ble_eq_true rfl⟩ ?_
    refine v_load rfl rfl ⟨rfl, Nat.le_of_ble_eq_true rfl⟩ ?_
    refine v_callr rfl ⟨Nat.le_of_ble_eq_true rfl, Nat.le_of_ble_eq_true rfl, rfl, Nat.le_of_ble_eq_true rfl, rfl⟩ ?_
    refine S_tkFirst hR ?_
    refine v_sub rfl (by omega) ?_
    refine v_ieq rfl (fun _ => ?_) (fun h => absurd h (by omega))
    refine v_push rfl ?_
    refine v_store rfl ⟨rfl, Nat.le_of_ble_eq_true rfl, Nat.le_of_ble_eq_true rfl, rfl⟩ rfl ?_
    exact S_same_loop hV hR hl c k _ 0 (show (0 : Int) + (((tk (toks t) j).2.2.1 - (tk (toks t) j).2.1).toNat : Int) = _ by omega) (fun x hx => absurd hx (Nat.not_lt_zero _))
  · rw [if_neg (fun z => c (wrd_eq.mp z).1)] at k
    refine v_load rfl rfl ⟨rfl, Nat.le_of_ble_eq_true rfl⟩ ?_
    refine v_load rfl rfl ⟨rfl, Nat.le_of_ble_eq_true rfl⟩ ?_
    refine v_callr rfl ⟨Nat.le_of_ble_eq_true rfl, Nat.le_of_ble_eq_true rfl, rfl, Nat.le_of_ble_eq_true rfl, rfl⟩ ?_
    refine S_tkEnd hR ?_
    refine v_load rfl rfl ⟨rfl, Nat.le_of_ble_eq_true rfl⟩ ?_
    refine v_load rfl rfl ⟨rfl, Nat.le_of_ble_eq_true rfl⟩ ?_
    refine v_callr rfl ⟨Nat.le_of_ble_eq_true rfl, Nat.le_of_ble_eq_true rfl, rfl, Nat.le_of_ble_eq_true rfl, rfl⟩ ?_
    refine S_tkFirst hR ?_
    refine v_sub rfl (by omega) ?_
    refine v_store rfl ⟨rfl, Nat.le_of_ble_eq_true rfl, Nat.le_of_ble_eq_true rfl, rfl⟩ rfl ?_
    refine v_load rfl rfl ⟨rfl, Nat.le_of_ble_eq_true rfl⟩ ?_
    refine v_load rfl rfl ⟨rfl, Nat.le_of_ble_eq_true rfl⟩ ?_
    refine v_load rfl rfl ⟨rfl, Nat.le_of_ble_eq_true rfl⟩ ?_
    refine v_callr rfl ⟨Nat.le_of_ble_eq_true rfl, Nat.le_of_ble_eq_true rfl, rfl, Nat.le_of_ble_eq_true rfl, rfl⟩ ?_
    refine S_tkEnd hR ?_
    refine v_load rfl rfl ⟨rfl, Nat.le_of_ble_eq_true rfl⟩ ?_
    refine v_load rfl rfl ⟨rfl, Nat.le_of_ble_eq_true rfl⟩ ?_
    refine v_callr rfl ⟨Nat.le_of_ble_eq_true rfl, Nat.le_of_ble_eq_true rfl, rfl, Nat.le_of_ble_eq_true rfl, rfl⟩ ?_
    refine S_tkFirst hR ?_
    refine v_sub rfl (by omega) ?_
    refine v_ieq rfl (fun h => absurd h (by omega)) (fun _ => ?_)
    refine v_push rfl ?_
    first | refine v_ret rfl rfl ?_ | refine v_retz rfl (b2i_01 _) ?_ | refine v_retz rfl (by omega) ?_
    exact k
theorem S_spelled_loop {q m z : Int} (hV : BV M 2 t 0) (hP : BV M 4 tp z) (hR : RT (toks t) M) (hl : t.length ≤ 300) (hm : 0 ≤ m ∧ m ≤ (tp.length : Int)) (hd : (tk (toks t) q).2.2.1 - (tk (toks t) q).2.1 = m) (k : Q (some (0, if wrd t q = tp.take m.toNat then 1 else 0)) M) : ∀ (n i : Nat), (i : Int) + (n : Int) = m → (∀ x : Nat, x < i → tb t ((tk (toks t) q).2.1 + (x : Int)) = tb tp (x : Int)) → v_wp L (d + 2) 72 20 [(2, 36), (0, q), (2, 4), (0, m), (0, (i : Int))] [] M Q := by
  intro n
  have r2 := tk_rng (t := t) q
  have hlp := hP.2.1
  induction n with
  | zero =>
    intro i hi hx
    rw [if_pos ((wrd_tp hm).mpr ⟨hd, fun x hx' => hx x (by omega)⟩)] at k
    refine v_load rfl rfl ⟨rfl, Nat.le_of_ble_eq_true rfl⟩ ?_
    refine v_load rfl rfl ⟨rfl, Nat.le_of_ble_eq_true rfl⟩ ?_
    refine v_ige rfl (fun _ => ?_) (fun h => absurd h (by omega))
    refine v_push rfl ?_
    first | refine v_ret rfl rfl ?_ | refine v_retz rfl (b2i_01 _) ?_ | refine v_retz rfl (by omega) ?_
    exact k
  | succ n ih =>
    intro i hi hx
    by_cases c : tb t ((tk (toks t) q).2.1 + (i : Int)) = tb tp (i : Int)
    · refine v_load rfl rfl ⟨rfl, Nat.le_of_ble_eq_true rfl⟩ ?_
      refine v_load rfl rfl ⟨rfl, Nat.le_of_ble_eq_true rfl⟩ ?_
      refine v_ige rfl (fun h => absurd h (by omega)) (fun _ => ?_)
      refine v_load rfl rfl ⟨rfl, Nat.le_of_ble_eq_true rfl⟩ ?_
      refine v_getp rfl rfl rfl ?_
      refine v_load rfl rfl ⟨rfl, Nat.le_of_ble_eq_true rfl⟩ ?_
      refine v_load rfl rfl ⟨rfl, Nat.le_of_ble_eq_true rfl⟩ ?_
      refine v_callr rfl ⟨Nat.le_of_ble_eq_true rfl, Nat.le_of_ble_eq_true rfl, rfl, Nat.le_of_ble_eq_true rfl, rfl⟩ ?_
      refine S_tkFirst hR ?_
      refine v_load rfl rfl ⟨rfl, Nat.le_of_ble_eq_true rfl⟩ ?_
      refine v_add rfl (by omega) ?_
      refine v_callr rfl ⟨Nat.le_of_ble_eq_true rfl, Nat.le_of_ble_eq_true rfl, rfl, Nat.le_of_ble_eq_true rfl, rfl⟩ ?_
      refine S_atT z_B2 hV ?_
      refine v_load rfl rfl ⟨rfl, Nat.le_of_ble_eq_true rfl⟩ ?_
      refine v_load rfl rfl ⟨rfl, Nat.le_of_ble_eq_true rfl⟩ ?_
      refine v_callr rfl ⟨Nat.le_of_ble_eq_true rfl, Nat.le_of_ble_eq_true rfl, rfl, Nat.le_of_ble_eq_true rfl, rfl⟩ ?_
      refine S_atT z_B4 hP ?_
      refine v_ieq rfl (fun _ => ?_) (fun h => absurd h (absurd c h))
      refine v_iinc rfl rfl rfl (by omega) rfl ?_
      refine v_goto rfl ?_
      exact ih (i + 1) (by omega) (fun x hx' => by by_cases e : x = i; (subst e; exact c); exact hx x (by omega))
    · rw [if_neg (fun y => c (((wrd_tp hm).mp y).2 i (by omega)))] at k
      refine v_load rfl rfl ⟨rfl, Nat.le_of_ble_eq_true rfl⟩ ?_
      refine v_load rfl rfl ⟨rfl, Nat.le_of_ble_eq_true rfl⟩ ?_
      refine v_ige rfl (fun h => absurd h (by omega)) (fun _ => ?_)
      refine v_load rfl rfl ⟨rfl, Nat.le_of_ble_eq_true rfl⟩ ?_
      refine v_getp rfl rfl rfl ?_
      refine v_load rfl rfl ⟨rfl, Nat.le_of_ble_eq_true rfl⟩ ?_
      refine v_load rfl rfl ⟨rfl, Nat.le_of_ble_eq_true rfl⟩ ?_
      refine v_callr rfl ⟨Nat.le_of_ble_eq_true rfl, Nat.le_of_ble_eq_true rfl, rfl, Nat.le_of_ble_eq_true rfl, rfl⟩ ?_
      refine S_tkFirst hR ?_
      refine v_load rfl rfl ⟨rfl, Nat.le_of_ble_eq_true rfl⟩ ?_
      refine v_add rfl (by omega) ?_
      refine v_callr rfl ⟨Nat.le_of_ble_eq_true rfl, Nat.le_of_ble_eq_true rfl, rfl, Nat.le_of_ble_eq_true rfl, rfl⟩ ?_
      refine S_atT z_B2 hV ?_
      refine v_load rfl rfl ⟨rfl, Nat.le_of_ble_eq_true rfl⟩ ?_
      refine v_load rfl rfl ⟨rfl, Nat.le_of_ble_eq_true rfl⟩ ?_
      refine v_callr rfl ⟨Nat.le_of_ble_eq_true rfl, Nat.le_of_ble_eq_true rfl, rfl, Nat.le_of_ble_eq_true rfl, rfl⟩ ?_
      refine S_atT z_B4 hP ?_
      refine v_ieq rfl (fun h => absurd h (c)) (fun _ => ?_)
      refine v_push rfl ?_
      first | refine v_ret rfl rfl ?_ | refine v_retz rfl (b2i_01 _) ?_ | refine v_retz rfl (by omega) ?_
      exact k
theorem S_isSpelled4 {q m z : Int} (hV : BV M 2 t 0) (hP : BV M 4 tp z) (hR : RT (toks t) M) (hl : t.length ≤ 300) (hm : 0 ≤ m ∧ m ≤ (tp.length : Int)) (k : Q (some (0, if wrd t q = tp.take m.toNat then 1 else 0)) M) : v_call L (d + 2) 72 [(2, 36), (0, q), (2, 4), (0, m)] M Q := by
  have r2 := tk_rng (t := t) q
  refine v_in ?_
  by_cases c : (tk (toks t) q).2.2.1 - (tk (toks t) q).2.1 = m
  · refine v_load rfl rfl ⟨rfl, Nat.le_of_ble_eq_true rfl⟩ ?_
    refine v_load rfl rfl ⟨rfl, Nat.le_of_ble_eq_true rfl⟩ ?_
    refine v_callr rfl ⟨Nat.le_of_ble_eq_true rfl, Nat.le_of_ble_eq_true rfl, rfl, Nat.le_of_ble_eq_true rfl, rfl⟩ ?_
    refine S_tkEnd hR ?_
    refine v_load rfl rfl ⟨rfl, Nat.le_of_ble_eq_true rfl⟩ ?_
    refine v_load rfl rfl ⟨rfl, Nat.le_of_ble_eq_true rfl⟩ ?_
    refine v_callr rfl ⟨Nat.le_of_ble_eq_true rfl, Nat.le_of_ble_eq_true rfl, rfl, Nat.le_of_ble_eq_true rfl, rfl⟩ ?_
    refine S_tkFirst hR ?_
    refine v_sub rfl (by omega) ?_
    refine v_load rfl rfl ⟨rfl, Nat.le_of_ble_eq_true rfl⟩ ?_
    refine v_ieq rfl (fun _ => ?_) (fun h => absurd h (by omega))
    refine v_push rfl ?_
    refine v_store rfl ⟨rfl, Nat.le_of_ble_eq_true rfl, Nat.le_of_ble_eq_true rfl, rfl⟩ rfl ?_
    exact S_spelled_loop hV hP hR hl hm c k _ 0 (show (0 : Int) + (m.toNat : Int) = _ by omega) (fun x hx => absurd hx (Nat.not_lt_zero _))
  · rw [if_neg (fun y => c ((wrd_tp hm).mp y).1)] at k
    refine v_load rfl rfl ⟨rfl, Nat.le_of_ble_eq_true rfl⟩ ?_
    refine v_load rfl rfl ⟨rfl, Nat.le_of_ble_eq_true rfl⟩ ?_
    refine v_callr rfl ⟨Nat.le_of_ble_eq_true rfl, Nat.le_of_ble_eq_true rfl, rfl, Nat.le_of_ble_eq_true rfl, rfl⟩ ?_
    refine S_tkEnd hR ?_
    refine v_load rfl rfl ⟨rfl, Nat.le_of_ble_eq_true rfl⟩ ?_
    refine v_load rfl rfl ⟨rfl, Nat.le_of_ble_eq_true rfl⟩ ?_
    refine v_callr rfl ⟨Nat.le_of_ble_eq_true rfl, Nat.le_of_ble_eq_true rfl, rfl, Nat.le_of_ble_eq_true rfl, rfl⟩ ?_
    refine S_tkFirst hR ?_
    refine v_sub rfl (by omega) ?_
    refine v_load rfl rfl ⟨rfl, Nat.le_of_ble_eq_true rfl⟩ ?_
    refine v_ieq rfl (fun h => absurd h (by omega)) (fun _ => ?_)
    refine v_push rfl ?_
    first | refine v_ret rfl rfl ?_ | refine v_retz rfl (b2i_01 _) ?_ | refine v_retz rfl (by omega) ?_
    exact k
/-- letters on the tape -/
def ltW (tp : List Int) (m : Int) : Prop := 1 ≤ m ∧ m ≤ (tp.length : Int) ∧ ∀ i : Nat, (i : Int) < m → isLet (tb tp (i : Int)) = true
theorem S_let_loop {m z : Int} [Decidable (ltW tp m)] (hP : BV M 4 tp z) (hm : 1 ≤ m ∧ m ≤ (tp.length : Int)) (k : Q (some (0, if ltW tp m then 1 else 0)) M) : ∀ (n i : Nat), (i : Int) + (n : Int) = m → (∀ x : Nat, x < i → isLet (tb tp (x : Int)) = true) → v_wp L (d + 2) 134 20 [(2, 1), (0, m), (0, (i : Int))] [] M Q := by
  intro n
  have hlp := hP.2.1
  induction n with
  | zero =>
    intro i hi hx
    rw [if_pos ⟨hm.1, hm.2, fun x hx' => hx x (by omega)⟩] at k
    refine v_load rfl rfl ⟨rfl, Nat.le_of_ble_eq_true rfl⟩ ?_
    refine v_load rfl rfl ⟨rfl, Nat.le_of_ble_eq_true rfl⟩ ?_
    refine v_ige rfl (fun _ => ?_) (fun h => absurd h (by omega))
    refine v_push rfl ?_
    first | refine v_ret rfl rfl ?_ | refine v_retz rfl (b2i_01 _) ?_ | refine v_retz rfl (by omega) ?_
    exact k
  | succ n ih =>
    intro i hi hx
    by_cases c : isLet (tb tp (i : Int)) = true
    · refine v_load rfl rfl ⟨rfl, Nat.le_of_ble_eq_true rfl⟩ ?_
      refine v_load rfl rfl ⟨rfl, Nat.le_of_ble_eq_true rfl⟩ ?_
      refine v_ige rfl (fun h => absurd h (by omega)) (fun _ => ?_)
      refine v_load rfl rfl ⟨rfl, Nat.le_of_ble_eq_true rfl⟩ ?_
      refine v_getp rfl rfl rfl ?_
      refine v_load rfl rfl ⟨rfl, Nat.le_of_ble_eq_true rfl⟩ ?_
      refine v_callr rfl ⟨Nat.le_of_ble_eq_true rfl, Nat.le_of_ble_eq_true rfl, rfl, Nat.le_of_ble_eq_true rfl, rfl⟩ ?_
      refine S_atT z_B4 hP ?_
      refine v_callr rfl ⟨Nat.le_of_ble_eq_true rfl, Nat.le_of_ble_eq_true rfl, rfl, Nat.le_of_ble_eq_true rfl, rfl⟩ ?_
      refine S_isLetter ?_
      rw [b2i_t c]
      refine v_ifne rfl (fun _ => ?_) (fun h => absurd h (by decide))
      refine v_iinc rfl rfl rfl (by omega) rfl ?_
      refine v_goto rfl ?_
      exact ih (i + 1) (by omega) (fun x hx' => by by_cases e : x = i; (subst e; exact c); exact hx x (by omega))
    · rw [if_neg (fun y => c (y.2.2 i (by omega)))] at k
      refine v_load rfl rfl ⟨rfl, Nat.le_of_ble_eq_true rfl⟩ ?_
      refine v_load rfl rfl ⟨rfl, Nat.le_of_ble_eq_true rfl⟩ ?_
      refine v_ige rfl (fun h => absurd h (by omega)) (fun _ => ?_)
      refine v_load rfl rfl ⟨rfl, Nat.le_of_ble_eq_true rfl⟩ ?_
      refine v_getp rfl rfl rfl ?_
      refine v_load rfl rfl ⟨rfl, Nat.le_of_ble_eq_true rfl⟩ ?_
      refine v_callr rfl ⟨Nat.le_of_ble_eq_true rfl, Nat.le_of_ble_eq_true rfl, rfl, Nat.le_of_ble_eq_true rfl, rfl⟩ ?_
      refine S_atT z_B4 hP ?_
      refine v_callr rfl ⟨Nat.le_of_ble_eq_true rfl, Nat.le_of_ble_eq_true rfl, rfl, Nat.le_of_ble_eq_true rfl, rfl⟩ ?_
      refine S_isLetter ?_
      rw [b2i_f c]
      refine v_ifne rfl (fun h => absurd h (by decide)) (fun _ => ?_)
      refine v_push rfl ?_
      first | refine v_ret rfl rfl ?_ | refine v_retz rfl (b2i_01 _) ?_ | refine v_retz rfl (by omega) ?_
      exact k
theorem S_tapeLet {m z : Int} [Decidable (ltW tp m)] (hP : BV M 4 tp z) (k : Q (some (0, if ltW tp m then 1 else 0)) M) : v_call L (d + 2) 134 [(2, 1), (0, m)] M Q := by
  refine v_in ?_
  by_cases c : 1 ≤ m ∧ m ≤ (tp.length : Int)
  · refine v_load rfl rfl ⟨rfl, Nat.le_of_ble_eq_true rfl⟩ ?_
    refine v_push rfl ?_
    refine v_ilt rfl (fun h => absurd h (by omega)) (fun _ => ?_)
    refine v_load rfl rfl ⟨rfl, Nat.le_of_ble_eq_true rfl⟩ ?_
    refine v_load rfl rfl ⟨rfl, Nat.le_of_ble_eq_true rfl⟩ ?_
    refine v_getp rfl rfl rfl ?_
    refine v_callr rfl ⟨Nat.le_of_ble_eq_true rfl, Nat.le_of_ble_eq_true rfl, rfl, Nat.le_of_ble_eq_true rfl, rfl⟩ ?_
    refine S_sizeT z_B4 hP ?_
    refine v_ile rfl (fun _ => ?_) (fun h => absurd h (by omega))
    refine v_push rfl ?_
    refine v_store rfl ⟨rfl, Nat.le_of_ble_eq_true rfl, Nat.le_of_ble_eq_true rfl, rfl⟩ rfl ?_
    exact S_let_loop hP c k m.toNat 0 (by omega) (fun x hx => absurd hx (Nat.not_lt_zero _))
  · rw [if_neg (fun y => c ⟨y.1, y.2.1⟩)] at k
    refine v_load rfl rfl ⟨rfl, Nat.le_of_ble_eq_true rfl⟩ ?_
    refine v_push rfl ?_
    refine v_ilt rfl (fun c7 => ?_) (fun c7 => ?_)
    · refine v_push rfl ?_
      refine v_retz rfl (by first | exact Or.inl rfl | exact Or.inr rfl | exact b2i_01 _ | omega) ?_
      first | exact k | (exfalso; omega)
    · refine v_load rfl rfl ⟨rfl, Nat.le_of_ble_eq_true rfl⟩ ?_
      refine v_load rfl rfl ⟨rfl, Nat.le_of_ble_eq_true rfl⟩ ?_
      refine v_getp rfl rfl rfl ?_
      refine v_callr rfl ⟨Nat.le_of_ble_eq_true rfl, Nat.le_of_ble_eq_true rfl, rfl, Nat.le_of_ble_eq_true rfl, rfl⟩ ?_
      refine S_sizeT z_B4 hP ?_
      refine v_ile rfl (fun c8 => ?_) (fun c8 => ?_)
      · first | exact k | (exfalso; omega)
      · refine v_push rfl ?_
        refine v_retz rfl (by first | exact Or.inl rfl | exact Or.inr rfl | exact b2i_01 _ | omega) ?_
        first | exact k | (exfalso; omega)
theorem S_isUse {q : Int} {j : Nat} (hj : j < (toks t).length) (hV : BV M 2 t 0) (hR : RT (toks t) M) (hN : TN (toks t) M) (hl : t.length ≤ 300) (k : Q (some (0, b2i (usT t q j))) M) : v_call L (d + 3) 136 [(2, 1), (0, (j : Int)), (0, q)] M Q := by
  have hk : b2i (usT t q j) = if (nd (NT (toks t)) (lf (NT (toks t)) (j : Int))).1 = 12 ∧ wrd t (j : Int) = wrd t q then 1 else 0 := by unfold usT b2i; simp
  rw [hk] at k
  refine v_in ?_
  by_cases c : (nd (NT (toks t)) (lf (NT (toks t)) (j : Int))).1 = 12
  · by_cases c2 : wrd t (j : Int) = wrd t q
    · rw [if_pos ⟨c, c2⟩] at k
      refine v_load rfl rfl ⟨rfl, Nat.le_of_ble_eq_true rfl⟩ ?_
      refine v_getp rfl rfl rfl ?_
      refine v_load rfl rfl ⟨rfl, Nat.le_of_ble_eq_true rfl⟩ ?_
      refine v_getp rfl rfl rfl ?_
      refine v_load rfl rfl ⟨rfl, Nat.le_of_ble_eq_true rfl⟩ ?_
      refine v_callr rfl ⟨Nat.le_of_ble_eq_true rfl, Nat.le_of_ble_eq_true rfl, rfl, Nat.le_of_ble_eq_true rfl, rfl⟩ ?_
      refine S_leafOf hR hN hl ?_
      rw [if_pos ⟨by omega, by omega⟩]
      refine v_push rfl ?_
      refine v_callr rfl ⟨Nat.le_of_ble_eq_true rfl, Nat.le_of_ble_eq_true rfl, rfl, Nat.le_of_ble_eq_true rfl, rfl⟩ ?_
      refine S_ndIsOf hN.1 (by decide) ?_
      rw [b2i_t (decide_eq_true c)]
      refine v_ifeq rfl (fun h => absurd h (by decide)) (fun _ => ?_)
      refine v_load rfl rfl ⟨rfl, Nat.le_of_ble_eq_true rfl⟩ ?_
      refine v_getp rfl rfl rfl ?_
      refine v_load rfl rfl ⟨rfl, Nat.le_of_ble_eq_true rfl⟩ ?_
      refine v_load rfl rfl ⟨rfl, Nat.le_of_ble_eq_true rfl⟩ ?_
      refine v_callr rfl ⟨Nat.le_of_ble_eq_true rfl, Nat.le_of_ble_eq_true rfl, rfl, Nat.le_of_ble_eq_true rfl, rfl⟩ ?_
      refine S_isSame hV hR hl ?_
      rw [if_pos c2]
      refine v_ifeq rfl (fun h => absurd h (by decide)) (fun _ => ?_)
      refine v_push rfl ?_
      refine v_goto rfl ?_
      first | refine v_ret rfl rfl ?_ | refine v_retz rfl (b2i_01 _) ?_ | refine v_retz rfl (by omega) ?_
      exact k
    · rw [if_neg (fun z => c2 z.2)] at k
      refine v_load rfl rfl ⟨rfl, Nat.le_of_ble_eq_true rfl⟩ ?_
      refine v_getp rfl rfl rfl ?_
      refine v_load rfl rfl ⟨rfl, Nat.le_of_ble_eq_true rfl⟩ ?_
      refine v_getp rfl rfl rfl ?_
      refine v_load rfl rfl ⟨rfl, Nat.le_of_ble_eq_true rfl⟩ ?_
      refine v_callr rfl ⟨Nat.le_of_ble_eq_true rfl, Nat.le_of_ble_eq_true rfl, rfl, Nat.le_of_ble_eq_true rfl, rfl⟩ ?_
      refine S_leafOf hR hN hl ?_
      rw [if_pos ⟨by omega, by omega⟩]
      refine v_push rfl ?_
      refine v_callr rfl ⟨Nat.le_of_ble_eq_true rfl, Nat.le_of_ble_eq_true rfl, rfl, Nat.le_of_ble_eq_true rfl, rfl⟩ ?_
      refine S_ndIsOf hN.1 (by decide) ?_
      rw [b2i_t (decide_eq_true c)]
      refine v_ifeq rfl (fun h => absurd h (by decide)) (fun _ => ?_)
      refine v_load rfl rfl ⟨rfl, Nat.le_of_ble_eq_true rfl⟩ ?_
      refine v_getp rfl rfl rfl ?_
      refine v_load rfl rfl ⟨rfl, Nat.le_of_ble_eq_true rfl⟩ ?_
      refine v_load rfl rfl ⟨rfl, Nat.le_of_ble_eq_true rfl⟩ ?_
      refine v_callr rfl ⟨Nat.le_of_ble_eq_true rfl, Nat.le_of_ble_eq_true rfl, rfl, Nat.le_of_ble_eq_true rfl, rfl⟩ ?_
      refine S_isSame hV hR hl ?_
      rw [if_neg c2]
      refine v_ifeq rfl (fun _ => ?_) (fun h => absurd h (by decide))
      refine v_push rfl ?_
      first | refine v_ret rfl rfl ?_ | refine v_retz rfl (b2i_01 _) ?_ | refine v_retz rfl (by omega) ?_
      exact k
  · rw [if_neg (fun z => c z.1)] at k
    refine v_load rfl rfl ⟨rfl, Nat.le_of_ble_eq_true rfl⟩ ?_
    refine v_getp rfl rfl rfl ?_
    refine v_load rfl rfl ⟨rfl, Nat.le_of_ble_eq_true rfl⟩ ?_
    refine v_getp rfl rfl rfl ?_
    refine v_load rfl rfl ⟨rfl, Nat.le_of_ble_eq_true rfl⟩ ?_
    refine v_callr rfl ⟨Nat.le_of_ble_eq_true rfl, Nat.le_of_ble_eq_true rfl, rfl, Nat.le_of_ble_eq_true rfl, rfl⟩ ?_
    refine S_leafOf hR hN hl ?_
    rw [if_pos ⟨by omega, by omega⟩]
    refine v_push rfl ?_
    refine v_callr rfl ⟨Nat.le_of_ble_eq_true rfl, Nat.le_of_ble_eq_true rfl, rfl, Nat.le_of_ble_eq_true rfl, rfl⟩ ?_
    refine S_ndIsOf hN.1 (by decide) ?_
    rw [b2i_f (by simpa using c)]
    refine v_ifeq rfl (fun _ => ?_) (fun h => absurd h (by decide))
    refine v_push rfl ?_
    first | refine v_ret rfl rfl ?_ | refine v_retz rfl (b2i_01 _) ?_ | refine v_retz rfl (by omega) ?_
    exact k
theorem hdI_app {l R : List Nat} (h : l ≠ []) : hdI (l ++ R) = hdI l := by
  cases l with
  | nil => exact absurd rfl h
  | cons x l => rfl
theorem S_firstUse_loop {q : Int} (hV : BV M 2 t 0) (hR : RT (toks t) M) (hN : TN (toks t) M) (hl : t.length ≤ 300) (k : Q (some (0, hdI (TI t q (toks t).length))) M) : ∀ (n j : Nat), n = (toks t).length - j → j ≤ (toks t).length → TI t q j = [] → v_wp L (d + 4) 137 2 [(2, 1), (0, q), (0, (j : Int))] [] M Q := by
  intro n
  have hlt : (toks t).length ≤ 300 := hR.2.1
  induction n with
  | zero =>
    intro j hn hj he
    have ej : j = (toks t).length := by omega
    subst ej
    rw [he] at k
    refine v_load rfl rfl ⟨rfl, Nat.le_of_ble_eq_true rfl⟩ ?_
    refine v_load rfl rfl ⟨rfl, Nat.le_of_ble_eq_true rfl⟩ ?_
    refine v_getp rfl rfl rfl ?_
    refine v_callr rfl ⟨Nat.le_of_ble_eq_true rfl, Nat.le_of_ble_eq_true rfl, rfl, Nat.le_of_ble_eq_true rfl, rfl⟩ ?_
    refine S_tkSize hR ?_
    refine v_ige rfl (fun _ => ?_) (fun h => absurd h (by omega))
    refine v_push rfl ?_
    refine v_ret rfl rfl ?_
    exact k
  | succ n ih =>
    intro j hn hj he
    by_cases c : usT t q j = true
    · obtain ⟨R, e⟩ := flt_pre (usT t q) (j + 1) ((toks t).length - (j + 1))
      rw [show j + 1 + ((toks t).length - (j + 1)) = (toks t).length by omega] at e
      have e1 : TI t q (j + 1) = [j] := by rw [TI_y c, he]; rfl
      have e2 : hdI (TI t q (toks t).length) = (j : Int) := by
        show hdI (flt (usT t q) (toks t).length) = _
        rw [e, show flt (usT t q) (j + 1) = [j] from e1]; rfl
      rw [e2] at k
      refine v_load rfl rfl ⟨rfl, Nat.le_of_ble_eq_true rfl⟩ ?_
      refine v_load rfl rfl ⟨rfl, Nat.le_of_ble_eq_true rfl⟩ ?_
      refine v_getp rfl rfl rfl ?_
      refine v_callr rfl ⟨Nat.le_of_ble_eq_true rfl, Nat.le_of_ble_eq_true rfl, rfl, Nat.le_of_ble_eq_true rfl, rfl⟩ ?_
      refine S_tkSize hR ?_
      refine v_ige rfl (fun h => absurd h (by omega)) (fun _ => ?_)
      refine v_load rfl rfl ⟨rfl, Nat.le_of_ble_eq_true rfl⟩ ?_
      refine v_load rfl rfl ⟨rfl, Nat.le_of_ble_eq_true rfl⟩ ?_
      refine v_load rfl rfl ⟨rfl, Nat.le_of_ble_eq_true rfl⟩ ?_
      refine v_callr rfl ⟨Nat.le_of_ble_eq_true rfl, Nat.le_of_ble_eq_true rfl, rfl, Nat.le_of_ble_eq_true rfl, rfl⟩ ?_
      refine S_isUse (by omega) hV hR hN hl ?_
      rw [b2i_t c]
      refine v_ifeq rfl (fun h => absurd h (by decide)) (fun _ => ?_)
      refine v_load rfl rfl ⟨rfl, Nat.le_of_ble_eq_true rfl⟩ ?_
      refine v_ret rfl rfl ?_
      exact k
    · refine v_load rfl rfl ⟨rfl, Nat.le_of_ble_eq_true rfl⟩ ?_
      refine v_load rfl rfl ⟨rfl, Nat.le_of_ble_eq_true rfl⟩ ?_
      refine v_getp rfl rfl rfl ?_
      refine v_callr rfl ⟨Nat.le_of_ble_eq_true rfl, Nat.le_of_ble_eq_true rfl, rfl, Nat.le_of_ble_eq_true rfl, rfl⟩ ?_
      refine S_tkSize hR ?_
      refine v_ige rfl (fun h => absurd h (by omega)) (fun _ => ?_)
      refine v_load rfl rfl ⟨rfl, Nat.le_of_ble_eq_true rfl⟩ ?_
      refine v_load rfl rfl ⟨rfl, Nat.le_of_ble_eq_true rfl⟩ ?_
      refine v_load rfl rfl ⟨rfl, Nat.le_of_ble_eq_true rfl⟩ ?_
      refine v_callr rfl ⟨Nat.le_of_ble_eq_true rfl, Nat.le_of_ble_eq_true rfl, rfl, Nat.le_of_ble_eq_true rfl, rfl⟩ ?_
      refine S_isUse (by omega) hV hR hN hl ?_
      rw [b2i_f c]
      refine v_ifeq rfl (fun _ => ?_) (fun h => absurd h (by decide))
      refine v_iinc rfl rfl rfl (by omega) rfl ?_
      refine v_goto rfl ?_
      exact ih (j + 1) (by omega) (by omega) (by rw [TI_n c]; exact he)
theorem S_firstUse {q : Int} (hV : BV M 2 t 0) (hR : RT (toks t) M) (hN : TN (toks t) M) (hl : t.length ≤ 300) (k : Q (some (0, hdI (TI t q (toks t).length))) M) : v_call L (d + 4) 137 [(2, 1), (0, q)] M Q := by
  refine v_in ?_
  refine v_push rfl ?_
  refine v_store rfl ⟨rfl, Nat.le_of_ble_eq_true rfl, Nat.le_of_ble_eq_true rfl, rfl⟩ rfl ?_
  exact S_firstUse_loop hV hR hN hl k _ 0 rfl (Nat.zero_le _) rfl
theorem S_lastUse_loop {q : Int} (hV : BV M 2 t 0) (hR : RT (toks t) M) (hN : TN (toks t) M) (hl : t.length ≤ 300) (k : Q (some (0, ltI (TI t q (toks t).length))) M) : ∀ (n : Nat), n ≤ (toks t).length → TI t q (toks t).length = TI t q n → v_wp L (d + 4) 138 10 [(2, 1), (0, q), (0, (n : Int) - 1)] [] M Q := by
  intro n
  have hlt : (toks t).length ≤ 300 := hR.2.1
  induction n with
  | zero =>
    intro hj he
    rw [he] at k
    refine v_load rfl rfl ⟨rfl, Nat.le_of_ble_eq_true rfl⟩ ?_
    refine v_iflt rfl (fun _ => ?_) (fun h => absurd h (by omega))
    refine v_push rfl ?_
    refine v_ret rfl rfl ?_
    exact k
  | succ n ih =>
    intro hj he
    rw [show ((n + 1 : Nat) : Int) - 1 = (n : Int) by omega]
    by_cases c : usT t q n = true
    · rw [he, TI_y c, ltI_snoc] at k
      refine v_load rfl rfl ⟨rfl, Nat.le_of_ble_eq_true rfl⟩ ?_
      refine v_iflt rfl (fun h => absurd h (by omega)) (fun _ => ?_)
      refine v_load rfl rfl ⟨rfl, Nat.le_of_ble_eq_true rfl⟩ ?_
      refine v_load rfl rfl ⟨rfl, Nat.le_of_ble_eq_true rfl⟩ ?_
      refine v_load rfl rfl ⟨rfl, Nat.le_of_ble_eq_true rfl⟩ ?_
      refine v_callr rfl ⟨Nat.le_of_ble_eq_true rfl, Nat.le_of_ble_eq_true rfl, rfl, Nat.le_of_ble_eq_true rfl, rfl⟩ ?_
      refine S_isUse (by omega) hV hR hN hl ?_
      rw [b2i_t c]
      refine v_ifeq rfl (fun h => absurd h (by decide)) (fun _ => ?_)
      refine v_load rfl rfl ⟨rfl, Nat.le_of_ble_eq_true rfl⟩ ?_
      refine v_ret rfl rfl ?_
      exact k
    · refine v_load rfl rfl ⟨rfl, Nat.le_of_ble_eq_true rfl⟩ ?_
      refine v_iflt rfl (fun h => absurd h (by omega)) (fun _ => ?_)
      refine v_load rfl rfl ⟨rfl, Nat.le_of_ble_eq_true rfl⟩ ?_
      refine v_load rfl rfl ⟨rfl, Nat.le_of_ble_eq_true rfl⟩ ?_
      refine v_load rfl rfl ⟨rfl, Nat.le_of_ble_eq_true rfl⟩ ?_
      refine v_callr rfl ⟨Nat.le_of_ble_eq_true rfl, Nat.le_of_ble_eq_true rfl, rfl, Nat.le_of_ble_eq_true rfl, rfl⟩ ?_
      refine S_isUse (by omega) hV hR hN hl ?_
      rw [b2i_f c]
      refine v_ifeq rfl (fun _ => ?_) (fun h => absurd h (by decide))
      refine v_iinc rfl rfl rfl (by omega) rfl ?_
      refine v_goto rfl ?_
      exact ih (by omega) (by rw [he, TI_n c])
theorem S_lastUse {q : Int} (hV : BV M 2 t 0) (hR : RT (toks t) M) (hN : TN (toks t) M) (hl : t.length ≤ 300) (k : Q (some (0, ltI (TI t q (toks t).length))) M) : v_call L (d + 4) 138 [(2, 1), (0, q)] M Q := by
  have hlt : (toks t).length ≤ 300 := hR.2.1
  refine v_in ?_
  refine v_load rfl rfl ⟨rfl, Nat.le_of_ble_eq_true rfl⟩ ?_
  refine v_getp rfl rfl rfl ?_
  refine v_callr rfl ⟨Nat.le_of_ble_eq_true rfl, Nat.le_of_ble_eq_true rfl, rfl, Nat.le_of_ble_eq_true rfl, rfl⟩ ?_
  refine S_tkSize hR ?_
  refine v_push rfl ?_
  refine v_sub rfl (by omega) ?_
  refine v_store rfl ⟨rfl, Nat.le_of_ble_eq_true rfl, Nat.le_of_ble_eq_true rfl, rfl⟩ rfl ?_
  exact S_lastUse_loop hV hR hN hl k _ (Nat.le_refl _) rfl
theorem S_ren_loop {q m z : Int} (M0 : zM) (hV : BV M0 2 t 0) (hP : BV M0 4 tp z) (hR : RT (toks t) M0) (hN : TN (toks t) M0) (hl : t.length ≤ 300) (hm : 1 ≤ m ∧ m ≤ (tp.length : Int)) (k : ∀ M', DRF (mgT t (TL t q (tp.take m.toNat) (toks t).length)) M' → z_oR 6 7 M0 M' → Q (some (0, ((TI t q (toks t).length).length : Int))) M') : ∀ (n j : Nat) (Mc : zM), n = (toks t).length - j → j ≤ (toks t).length → DRF (mgD t (TL t q (tp.take m.toNat) j)).1 Mc → z_oR 6 7 M0 Mc → v_wp L (d + 4) 135 15 [(2, 1), (0, q), (0, m), (0, ((TI t q j).length : Int)), (0, (mgD t (TL t q (tp.take m.toNat) j)).2), (0, (j : Int))] [] Mc Q := by
  intro n
  have hlt : (toks t).length ≤ 300 := hR.2.1
  induction n with
  | zero =>
    intro j Mc hn hj hD ho
    have ej : j = (toks t).length := by omega
    subst ej
    have hr := mgD_rng (TL_ok (t := t) (q := q) (w := tp.take m.toNat) (Nat.le_refl _))
    have v0 : BV Mc 2 t 0 := BV_oR hV ho (by decide)
    refine v_load rfl rfl ⟨rfl, Nat.le_of_ble_eq_true rfl⟩ ?_
    refine v_load rfl rfl ⟨rfl, Nat.le_of_ble_eq_true rfl⟩ ?_
    refine v_getp rfl rfl rfl ?_
    refine v_callr rfl ⟨Nat.le_of_ble_eq_true rfl, Nat.le_of_ble_eq_true rfl, rfl, Nat.le_of_ble_eq_true rfl, rfl⟩ ?_
    refine S_tkSize (RT_oR hR ho (by decide)) ?_
    refine v_ige rfl (fun _ => ?_) (fun h => absurd h (by omega))
    refine v_load rfl rfl ⟨rfl, Nat.le_of_ble_eq_true rfl⟩ ?_
    refine v_getp rfl rfl rfl ?_
    refine v_load rfl rfl ⟨rfl, Nat.le_of_ble_eq_true rfl⟩ ?_
    refine v_getp rfl rfl rfl ?_
    refine v_load rfl rfl ⟨rfl, Nat.le_of_ble_eq_true rfl⟩ ?_
    refine v_load rfl rfl ⟨rfl, Nat.le_of_ble_eq_true rfl⟩ ?_
    refine v_getp rfl rfl rfl ?_
    refine v_callr rfl ⟨Nat.le_of_ble_eq_true rfl, Nat.le_of_ble_eq_true rfl, rfl, Nat.le_of_ble_eq_true rfl, rfl⟩ ?_
    refine S_sizeT z_B2 v0 ?_
    refine v_callr rfl ⟨Nat.le_of_ble_eq_true rfl, Nat.le_of_ble_eq_true rfl, rfl, Nat.le_of_ble_eq_true rfl, rfl⟩ ?_
    refine S_dFrom hD (Or.inl rfl) v0 hr.1 ⟨by omega, Int.le_refl _⟩ (fun M1 d1 o1 => ?_)
    refine v_load rfl rfl ⟨rfl, Nat.le_of_ble_eq_true rfl⟩ ?_
    refine v_ret rfl rfl ?_
    exact k M1 d1 (z_oR_tr ho o1)
  | succ n ih =>
    intro j Mc hn hj hD ho
    have v0 : BV Mc 2 t 0 := BV_oR hV ho (by decide)
    have w0 : BV Mc 4 tp z := BV_oR hP ho (by decide)
    have q5 := RT_oR hR ho (by decide)
    have q6 := TN_oR hN ho (by decide)
    have hr := mgD_rng (TL_ok (t := t) (q := q) (w := tp.take m.toNat) (n := j) (by omega))
    have r := tk_rng (t := t) (j : Int)
    have hll : (TI t q j).length ≤ j := flt_len _ j
    by_cases c : usT t q j = true
    · refine v_load rfl rfl ⟨rfl, Nat.le_of_ble_eq_true rfl⟩ ?_
      refine v_load rfl rfl ⟨rfl, Nat.le_of_ble_eq_true rfl⟩ ?_
      refine v_getp rfl rfl rfl ?_
      refine v_callr rfl ⟨Nat.le_of_ble_eq_true rfl, Nat.le_of_ble_eq_true rfl, rfl, Nat.le_of_ble_eq_true rfl, rfl⟩ ?_
      refine S_tkSize q5 ?_
      refine v_ige rfl (fun h => absurd h (by omega)) (fun _ => ?_)
      refine v_load rfl rfl ⟨rfl, Nat.le_of_ble_eq_true rfl⟩ ?_
      refine v_load rfl rfl ⟨rfl, Nat.le_of_ble_eq_true rfl⟩ ?_
      refine v_load rfl rfl ⟨rfl, Nat.le_of_ble_eq_true rfl⟩ ?_
      refine v_callr rfl ⟨Nat.le_of_ble_eq_true rfl, Nat.le_of_ble_eq_true rfl, rfl, Nat.le_of_ble_eq_true rfl, rfl⟩ ?_
      refine S_isUse (by omega) v0 q5 q6 hl ?_
      rw [b2i_t c]
      refine v_ifeq rfl (fun h => absurd h (by decide)) (fun _ => ?_)
      refine v_load rfl rfl ⟨rfl, Nat.le_of_ble_eq_true rfl⟩ ?_
      refine v_getp rfl rfl rfl ?_
      refine v_load rfl rfl ⟨rfl, Nat.le_of_ble_eq_true rfl⟩ ?_
      refine v_getp rfl rfl rfl ?_
      refine v_load rfl rfl ⟨rfl, Nat.le_of_ble_eq_true rfl⟩ ?_
      refine v_load rfl rfl ⟨rfl, Nat.le_of_ble_eq_true rfl⟩ ?_
      refine v_getp rfl rfl rfl ?_
      refine v_load rfl rfl ⟨rfl, Nat.le_of_ble_eq_true rfl⟩ ?_
      refine v_callr rfl ⟨Nat.le_of_ble_eq_true rfl, Nat.le_of_ble_eq_true rfl, rfl, Nat.le_of_ble_eq_true rfl, rfl⟩ ?_
      refine S_tkFirst q5 ?_
      refine v_callr rfl ⟨Nat.le_of_ble_eq_true rfl, Nat.le_of_ble_eq_true rfl, rfl, Nat.le_of_ble_eq_true rfl, rfl⟩ ?_
      refine S_dFrom hD (Or.inl rfl) v0 hr.1 ⟨by omega, by omega⟩ (fun M1 d1 o1 => ?_)
      refine v_load rfl rfl ⟨rfl, Nat.le_of_ble_eq_true rfl⟩ ?_
      refine v_getp rfl rfl rfl ?_
      refine v_load rfl rfl ⟨rfl, Nat.le_of_ble_eq_true rfl⟩ ?_
      refine v_getp rfl rfl rfl ?_
      refine v_push rfl ?_
      refine v_load rfl rfl ⟨rfl, Nat.le_of_ble_eq_true rfl⟩ ?_
      refine v_callr rfl ⟨Nat.le_of_ble_eq_true rfl, Nat.le_of_ble_eq_true rfl, rfl, Nat.le_of_ble_eq_true rfl, rfl⟩ ?_
      refine S_dFrom d1 (Or.inr rfl) (BV_oR w0 o1 (by decide)) (by decide) ⟨by omega, by omega⟩ (fun M2 d2 o2 => ?_)
      have o12 := z_oR_tr o1 o2
      refine v_load rfl rfl ⟨rfl, Nat.le_of_ble_eq_true rfl⟩ ?_
      refine v_getp rfl rfl rfl ?_
      refine v_load rfl rfl ⟨rfl, Nat.le_of_ble_eq_true rfl⟩ ?_
      refine v_callr rfl ⟨Nat.le_of_ble_eq_true rfl, Nat.le_of_ble_eq_true rfl, rfl, Nat.le_of_ble_eq_true rfl, rfl⟩ ?_
      refine S_tkEnd (RT_oR q5 o12 (by decide)) ?_
      refine v_store rfl ⟨rfl, Nat.le_of_ble_eq_true rfl, Nat.le_of_ble_eq_true rfl, rfl⟩ rfl ?_
      refine v_iinc rfl rfl rfl (by omega) rfl ?_
      refine v_iinc rfl rfl rfl (by omega) rfl ?_
      refine v_goto rfl ?_
      have ihh := ih (j + 1) M2 (by omega) (by omega) (by rw [TL_y c, mgD_snoc]; rw [sub_0] at d2; exact d2) (z_oR_tr ho o12)
      rw [TI_y c, TL_y c, mgD_snoc, List.length_append, show (((TI t q j).length + [j].length : Nat) : Int) = ((TI t q j).length : Int) + 1 by rw [List.length_singleton]; omega, show ((j + 1 : Nat) : Int) = (j : Int) + 1 by omega] at ihh
      exact ihh
    · refine v_load rfl rfl ⟨rfl, Nat.le_of_ble_eq_true rfl⟩ ?_
      refine v_load rfl rfl ⟨rfl, Nat.le_of_ble_eq_true rfl⟩ ?_
      refine v_getp rfl rfl rfl ?_
      refine v_callr rfl ⟨Nat.le_of_ble_eq_true rfl, Nat.le_of_ble_eq_true rfl, rfl, Nat.le_of_ble_eq_true rfl, rfl⟩ ?_
      refine S_tkSize q5 ?_
      refine v_ige rfl (fun h => absurd h (by omega)) (fun _ => ?_)
      refine v_load rfl rfl ⟨rfl, Nat.le_of_ble_eq_true rfl⟩ ?_
      refine v_load rfl rfl ⟨rfl, Nat.le_of_ble_eq_true rfl⟩ ?_
      refine v_load rfl rfl ⟨rfl, Nat.le_of_ble_eq_true rfl⟩ ?_
      refine v_callr rfl ⟨Nat.le_of_ble_eq_true rfl, Nat.le_of_ble_eq_true rfl, rfl, Nat.le_of_ble_eq_true rfl, rfl⟩ ?_
      refine S_isUse (by omega) v0 q5 q6 hl ?_
      rw [b2i_f c]
      refine v_ifeq rfl (fun _ => ?_) (fun h => absurd h (by decide))
      refine v_iinc rfl rfl rfl (by omega) rfl ?_
      refine v_goto rfl ?_
      have ihh := ih (j + 1) Mc (by omega) (by omega) (by rw [TL_n c]; exact hD) ho
      rw [TI_n c, TL_n c, show ((j + 1 : Nat) : Int) = (j : Int) + 1 by omega] at ihh
      exact ihh
theorem S_draftRen {q m z : Int} (hV : BV M 2 t 0) (hP : BV M 4 tp z) (hR : RT (toks t) M) (hN : TN (toks t) M) (hl : t.length ≤ 300) (hm : 1 ≤ m ∧ m ≤ (tp.length : Int)) (k : ∀ M', DRF (mgT t (TL t q (tp.take m.toNat) (toks t).length)) M' → z_oR 6 7 M M' → Q (some (0, ((TI t q (toks t).length).length : Int))) M') : v_call L (d + 4) 135 [(2, 1), (0, q), (0, m)] M Q := by
  refine v_in ?_
  refine v_push rfl ?_
  refine v_store rfl ⟨rfl, Nat.le_of_ble_eq_true rfl, Nat.le_of_ble_eq_true rfl, rfl⟩ rfl ?_
  refine v_push rfl ?_
  refine v_store rfl ⟨rfl, Nat.le_of_ble_eq_true rfl, Nat.le_of_ble_eq_true rfl, rfl⟩ rfl ?_
  refine v_load rfl rfl ⟨rfl, Nat.le_of_ble_eq_true rfl⟩ ?_
  refine v_getp rfl rfl rfl ?_
  refine v_callr rfl ⟨Nat.le_of_ble_eq_true rfl, Nat.le_of_ble_eq_true rfl, rfl, Nat.le_of_ble_eq_true rfl, rfl⟩ ?_
  refine S_dClear (fun M1 d1 o1 => ?_)
  refine v_push rfl ?_
  refine v_store rfl ⟨rfl, Nat.le_of_ble_eq_true rfl, Nat.le_of_ble_eq_true rfl, rfl⟩ rfl ?_
  exact S_ren_loop M hV hP hR hN hl hm k _ 0 M1 rfl (Nat.zero_le _) d1 o1
end RN1
