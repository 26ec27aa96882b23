/-! ACTS: rename, the reference -/
section RN3
variable {L d n : Nat} {M : zM} {Q : Option zV → zM → Prop} {s : zA} {t tp : List Int}
theorem R_like_loop {j q : Int} (hX : RX t M) (hR : RR (toks t) M) (hj : 0 ≤ j ∧ j < ((toks t).length : Int)) (hq : 0 ≤ q ∧ q < ((toks t).length : Int)) (hd : (tk (toks t) j).2.2.1 - (tk (toks t) j).2.1 = (tk (toks t) q).2.2.1 - (tk (toks t) q).2.1) (k : Q (some (0, if wrd t j = wrd t q then 1 else 0)) M) : ∀ (n i : Nat), (i : Int) + (n : Int) = (tk (toks t) j).2.2.1 - (tk (toks t) j).2.1 → (∀ x : Nat, x < i → tb t ((tk (toks t) j).2.1 + (x : Int)) = tb t ((tk (toks t) q).2.1 + (x : Int))) → v_wp L d 244 19 [(2, 77), (0, j), (0, q), (0, (i : Int))] [] M Q := by
  intro n
  have r1 := tk_rng (t := t) j
  have r2 := tk_rng (t := t) q
  have hl := hX.2.1
  have hlt := hR.2.1
  obtain ⟨-, g2, g3, -⟩ := RR_at hR hj
  obtain ⟨-, f2, f3, -⟩ := RR_at hR hq
  induction n with
  | zero =>
    intro i hi hx
    rw [if_pos (wrd_eq.mpr ⟨hd, fun x hx' => hx x (by omega)⟩)] at k
    refine v_load rfl rfl ⟨rfl, Nat.le_of_ble_eq_true rfl⟩ ?_
    refine v_load rfl rfl ⟨rfl, Nat.le_of_ble_eq_true rfl⟩ ?_
    refine v_getp rfl rfl rfl ?_
    refine v_load rfl rfl ⟨rfl, Nat.le_of_ble_eq_true rfl⟩ ?_
    refine v_ald9 rfl rfl ⟨by omega, by show _ < (300 : Int); omega⟩ ?_
    rw [g3]
    refine v_ige rfl (fun _ => ?_) (fun h => absurd h (by omega))
    refine v_push rfl ?_
    first | refine v_ret rfl rfl ?_ | refine v_retz rfl (b2i_01 _) ?_ | refine v_retz rfl (by omega) ?_
    exact k
  | succ n ih =>
    intro i hi hx
    have x1 := RX_at hX (i := (tk (toks t) j).2.1 + (i : Int)) ⟨by omega, by omega⟩
    have x2 := RX_at hX (i := (tk (toks t) q).2.1 + (i : Int)) ⟨by omega, by omega⟩
    by_cases c : tb t ((tk (toks t) j).2.1 + (i : Int)) = tb t ((tk (toks t) q).2.1 + (i : Int))
    · refine v_load rfl rfl ⟨rfl, Nat.le_of_ble_eq_true rfl⟩ ?_
      refine v_load rfl rfl ⟨rfl, Nat.le_of_ble_eq_true rfl⟩ ?_
      refine v_getp rfl rfl rfl ?_
      refine v_load rfl rfl ⟨rfl, Nat.le_of_ble_eq_true rfl⟩ ?_
      refine v_ald9 rfl rfl ⟨by omega, by show _ < (300 : Int); omega⟩ ?_
      rw [g3]
      refine v_ige rfl (fun h => absurd h (by omega)) (fun _ => ?_)
      refine v_load rfl rfl ⟨rfl, Nat.le_of_ble_eq_true rfl⟩ ?_
      refine v_getp rfl rfl rfl ?_
      refine v_load rfl rfl ⟨rfl, Nat.le_of_ble_eq_true rfl⟩ ?_
      refine v_getp rfl rfl rfl ?_
      refine v_load rfl rfl ⟨rfl, Nat.le_of_ble_eq_true rfl⟩ ?_
      refine v_ald9 rfl rfl ⟨by omega, by show _ < (300 : Int); omega⟩ ?_
      rw [g2]
      refine v_load rfl rfl ⟨rfl, Nat.le_of_ble_eq_true rfl⟩ ?_
      refine v_add rfl (by omega) ?_
      refine v_ald9 rfl rfl ⟨by omega, by show _ < (300 : Int); omega⟩ ?_
      rw [x1]
      refine v_load rfl rfl ⟨rfl, Nat.le_of_ble_eq_true rfl⟩ ?_
      refine v_getp rfl rfl rfl ?_
      refine v_load rfl rfl ⟨rfl, Nat.le_of_ble_eq_true rfl⟩ ?_
      refine v_getp rfl rfl rfl ?_
      refine v_load rfl rfl ⟨rfl, Nat.le_of_ble_eq_true rfl⟩ ?_
      refine v_ald9 rfl rfl ⟨by omega, by show _ < (300 : Int); omega⟩ ?_
      rw [f2]
      refine v_load rfl rfl ⟨rfl, Nat.le_of_ble_eq_true rfl⟩ ?_
      refine v_add rfl (by omega) ?_
      refine v_ald9 rfl rfl ⟨by omega, by show _ < (300 : Int); omega⟩ ?_
      rw [x2]
      refine v_ieq rfl (fun _ => ?_) (fun h => absurd h (absurd c h))
      refine v_iinc rfl rfl rfl (by omega) rfl ?_
      refine v_goto rfl ?_
      exact ih (i + 1) (by omega) (fun x hx' => by by_cases e : x = i; (subst e; exact c); exact hx x (by omega))
    · rw [if_neg (fun z => c ((wrd_eq.mp z).2 i (by omega)))] at k
      refine v_load rfl rfl ⟨rfl, Nat.le_of_ble_eq_true rfl⟩ ?_
      refine v_load rfl rfl ⟨rfl, Nat.le_of_ble_eq_true rfl⟩ ?_
      refine v_getp rfl rfl rfl ?_
      refine v_load rfl rfl ⟨rfl, Nat.le_of_ble_eq_true rfl⟩ ?_
      refine v_ald9 rfl rfl ⟨by omega, by show _ < (300 : Int); omega⟩ ?_
      rw [g3]
      refine v_ige rfl (fun h => absurd h (by omega)) (fun _ => ?_)
      refine v_load rfl rfl ⟨rfl, Nat.le_of_ble_eq_true rfl⟩ ?_
      refine v_getp rfl rfl rfl ?_
      refine v_load rfl rfl ⟨rfl, Nat.le_of_ble_eq_true rfl⟩ ?_
      refine v_getp rfl rfl rfl ?_
      refine v_load rfl rfl ⟨rfl, Nat.le_of_ble_eq_true rfl⟩ ?_
      refine v_ald9 rfl rfl ⟨by omega, by show _ < (300 : Int); omega⟩ ?_
      rw [g2]
      refine v_load rfl rfl ⟨rfl, Nat.le_of_ble_eq_true rfl⟩ ?_
      refine v_add rfl (by omega) ?_
      refine v_ald9 rfl rfl ⟨by omega, by show _ < (300 : Int); omega⟩ ?_
      rw [x1]
      refine v_load rfl rfl ⟨rfl, Nat.le_of_ble_eq_true rfl⟩ ?_
      refine v_getp rfl rfl rfl ?_
      refine v_load rfl rfl ⟨rfl, Nat.le_of_ble_eq_true rfl⟩ ?_
      refine v_getp rfl rfl rfl ?_
      refine v_load rfl rfl ⟨rfl, Nat.le_of_ble_eq_true rfl⟩ ?_
      refine v_ald9 rfl rfl ⟨by omega, by show _ < (300 : Int); omega⟩ ?_
      rw [f2]
      refine v_load rfl rfl ⟨rfl, Nat.le_of_ble_eq_true rfl⟩ ?_
      refine v_add rfl (by omega) ?_
      refine v_ald9 rfl rfl ⟨by omega, by show _ < (300 : Int); omega⟩ ?_
      rw [x2]
      refine v_ieq rfl (fun h => absurd h (c)) (fun _ => ?_)
      refine v_push rfl ?_
      first | refine v_ret rfl rfl ?_ | refine v_retz rfl (b2i_01 _) ?_ | refine v_retz rfl (by omega) ?_
      exact k
theorem R_isLikeT {j q : Int} (hX : RX t M) (hR : RR (toks t) M) (hj : 0 ≤ j ∧ j < ((toks t).length : Int)) (hq : 0 ≤ q ∧ q < ((toks t).length : Int)) (k : Q (some (0, if wrd t j = wrd t q then 1 else 0)) M) : v_call L d 244 [(2, 77), (0, j), (0, q)] M Q := by
  have r1 := tk_rng (t := t) j
  have r2 := tk_rng (t := t) q
  have hlt := hR.2.1
  obtain ⟨-, g2, g3, -⟩ := RR_at hR hj
  obtain ⟨-, f2, f3, -⟩ := RR_at hR hq
  refine v_in ?_
  by_cases c : (tk (toks t) j).2.2.1 - (tk (toks t) j).2.1 = (tk (toks t) q).2.2.1 - (tk (toks t) q).2.1
  · refine v_load rfl rfl ⟨rfl, Nat.le_of_ble_eq_true rfl⟩ ?_
    refine v_getp rfl rfl rfl ?_
    refine v_load rfl rfl ⟨rfl, Nat.le_of_ble_eq_true rfl⟩ ?_
    refine v_ald9 rfl rfl ⟨by omega, by show _ < (300 : Int); omega⟩ ?_
    refine v_load rfl rfl ⟨rfl, Nat.le_of_ble_eq_true rfl⟩ ?_
    refine v_getp rfl rfl rfl ?_
    refine v_load rfl rfl ⟨rfl, Nat.le_of_ble_eq_true rfl⟩ ?_
    refine v_ald9 rfl rfl ⟨by omega, by show _ < (300 : Int); omega⟩ ?_
    refine v_ieq rfl (fun _ => ?_) (fun h => absurd h (by omega))
    refine v_push rfl ?_
    refine v_store rfl ⟨rfl, Nat.le_of_ble_eq_true rfl, Nat.le_of_ble_eq_true rfl, rfl⟩ rfl ?_
    exact R_like_loop hX hR hj hq c k _ 0 (show (0 : Int) + (((tk (toks t) j).2.2.1 - (tk (toks t) j).2.1).toNat : Int) = _ by omega) (fun x hx => absurd hx (Nat.not_lt_zero _))
  · rw [if_neg (fun z => c (wrd_eq.mp z).1)] at k
    refine v_load rfl rfl ⟨rfl, Nat.le_of_ble_eq_true rfl⟩ ?_
    refine v_getp rfl rfl rfl ?_
    refine v_load rfl rfl ⟨rfl, Nat.le_of_ble_eq_true rfl⟩ ?_
    refine v_ald9 rfl rfl ⟨by omega, by show _ < (300 : Int); omega⟩ ?_
    refine v_load rfl rfl ⟨rfl, Nat.le_of_ble_eq_true rfl⟩ ?_
    refine v_getp rfl rfl rfl ?_
    refine v_load rfl rfl ⟨rfl, Nat.le_of_ble_eq_true rfl⟩ ?_
    refine v_ald9 rfl rfl ⟨by omega, by show _ < (300 : Int); omega⟩ ?_
    refine v_ieq rfl (fun h => absurd h (by omega)) (fun _ => ?_)
    refine v_push rfl ?_
    first | refine v_ret rfl rfl ?_ | refine v_retz rfl (b2i_01 _) ?_ | refine v_retz rfl (by omega) ?_
    exact k
theorem R_tlike_loop {q m : Int} (hX : RX t M) (hP : RTp tp M) (hR : RR (toks t) M) (hq : 0 ≤ q ∧ q < ((toks t).length : Int)) (hm : 0 ≤ m ∧ m ≤ (tp.length : Int)) (hd : (tk (toks t) q).2.2.1 - (tk (toks t) q).2.1 = m) (k : Q (some (0, if wrd t q = tp.take m.toNat then 1 else 0)) M) : ∀ (n i : Nat), (i : Int) + (n : Int) = m → (∀ x : Nat, x < i → tb t ((tk (toks t) q).2.1 + (x : Int)) = tb tp (x : Int)) → v_wp L d 248 14 [(2, 77), (0, q), (0, m), (0, (i : Int))] [] M Q := by
  intro n
  have r2 := tk_rng (t := t) q
  have hl := hX.2.1
  have hlt := hR.2.1
  have hlp := hP.2.1
  obtain ⟨-, g2, g3, -⟩ := RR_at hR hq
  induction n with
  | zero =>
    intro i hi hx
    rw [if_pos ((wrd_tp hm).mpr ⟨hd, fun x hx' => hx x (by omega)⟩)] at k
    refine v_load rfl rfl ⟨rfl, Nat.le_of_ble_eq_true rfl⟩ ?_
    refine v_load rfl rfl ⟨rfl, Nat.le_of_ble_eq_true rfl⟩ ?_
    refine v_ige rfl (fun _ => ?_) (fun h => absurd h (by omega))
    refine v_push rfl ?_
    first | refine v_ret rfl rfl ?_ | refine v_retz rfl (b2i_01 _) ?_ | refine v_retz rfl (by omega) ?_
    exact k
  | succ n ih =>
    intro i hi hx
    have x1 := RX_at hX (i := (tk (toks t) q).2.1 + (i : Int)) ⟨by omega, by omega⟩
    have x2 : M 78 (i : Int) = tb tp (i : Int) := by rw [hP.2.2 i (by omega)]; unfold tb; rw [if_pos ⟨by omega, by omega⟩, Int.toNat_natCast]
    by_cases c : tb t ((tk (toks t) q).2.1 + (i : Int)) = tb tp (i : Int)
    · refine v_load rfl rfl ⟨rfl, Nat.le_of_ble_eq_true rfl⟩ ?_
      refine v_load rfl rfl ⟨rfl, Nat.le_of_ble_eq_true rfl⟩ ?_
      refine v_ige rfl (fun h => absurd h (by omega)) (fun _ => ?_)
      refine v_load rfl rfl ⟨rfl, Nat.le_of_ble_eq_true rfl⟩ ?_
      refine v_getp rfl rfl rfl ?_
      refine v_load rfl rfl ⟨rfl, Nat.le_of_ble_eq_true rfl⟩ ?_
      refine v_ald9 rfl rfl ⟨by omega, by show _ < (300 : Int); omega⟩ ?_
      rw [x2]
      refine v_load rfl rfl ⟨rfl, Nat.le_of_ble_eq_true rfl⟩ ?_
      refine v_getp rfl rfl rfl ?_
      refine v_load rfl rfl ⟨rfl, Nat.le_of_ble_eq_true rfl⟩ ?_
      refine v_getp rfl rfl rfl ?_
      refine v_load rfl rfl ⟨rfl, Nat.le_of_ble_eq_true rfl⟩ ?_
      refine v_ald9 rfl rfl ⟨by omega, by show _ < (300 : Int); omega⟩ ?_
      rw [g2]
      refine v_load rfl rfl ⟨rfl, Nat.le_of_ble_eq_true rfl⟩ ?_
      refine v_add rfl (by omega) ?_
      refine v_ald9 rfl rfl ⟨by omega, by show _ < (300 : Int); omega⟩ ?_
      rw [x1]
      refine v_ieq rfl (fun _ => ?_) (fun h => absurd h (absurd c.symm h))
      refine v_iinc rfl rfl rfl (by omega) rfl ?_
      refine v_goto rfl ?_
      exact ih (i + 1) (by omega) (fun x hx' => by by_cases e : x = i; (subst e; exact c); exact hx x (by omega))
    · rw [if_neg (fun y => c (((wrd_tp hm).mp y).2 i (by omega)))] at k
      refine v_load rfl rfl ⟨rfl, Nat.le_of_ble_eq_true rfl⟩ ?_
      refine v_load rfl rfl ⟨rfl, Nat.le_of_ble_eq_true rfl⟩ ?_
      refine v_ige rfl (fun h => absurd h (by omega)) (fun _ => ?_)
      refine v_load rfl rfl ⟨rfl, Nat.le_of_ble_eq_true rfl⟩ ?_
      refine v_getp rfl rfl rfl ?_
      refine v_load rfl rfl ⟨rfl, Nat.le_of_ble_eq_true rfl⟩ ?_
      refine v_ald9 rfl rfl ⟨by omega, by show _ < (300 : Int); omega⟩ ?_
      rw [x2]
      refine v_load rfl rfl ⟨rfl, Nat.le_of_ble_eq_true rfl⟩ ?_
      refine v_getp rfl rfl rfl ?_
      refine v_load rfl rfl ⟨rfl, Nat.le_of_ble_eq_true rfl⟩ ?_
      refine v_getp rfl rfl rfl ?_
      refine v_load rfl rfl ⟨rfl, Nat.le_of_ble_eq_true rfl⟩ ?_
      refine v_ald9 rfl rfl ⟨by omega, by show _ < (300 : Int); omega⟩ ?_
      rw [g2]
      refine v_load rfl rfl ⟨rfl, Nat.le_of_ble_eq_true rfl⟩ ?_
      refine v_add rfl (by omega) ?_
      refine v_ald9 rfl rfl ⟨by omega, by show _ < (300 : Int); omega⟩ ?_
      rw [x1]
      refine v_ieq rfl (fun h => absurd h (fun z => c z.symm)) (fun _ => ?_)
      refine v_push rfl ?_
      first | refine v_ret rfl rfl ?_ | refine v_retz rfl (b2i_01 _) ?_ | refine v_retz rfl (by omega) ?_
      exact k
theorem R_isTapeLike {q m : Int} (hX : RX t M) (hP : RTp tp M) (hR : RR (toks t) M) (hq : 0 ≤ q ∧ q < ((toks t).length : Int)) (hm : 0 ≤ m ∧ m ≤ (tp.length : Int)) (k : Q (some (0, if wrd t q = tp.take m.toNat then 1 else 0)) M) : v_call L d 248 [(2, 77), (0, q), (0, m)] M Q := by
  have r2 := tk_rng (t := t) q
  have hlt := hR.2.1
  obtain ⟨-, g2, g3, -⟩ := RR_at hR hq
  refine v_in ?_
  by_cases c : (tk (toks t) q).2.2.1 - (tk (toks t) q).2.1 = m
  · refine v_load rfl rfl ⟨rfl, Nat.le_of_ble_eq_true rfl⟩ ?_
    refine v_getp rfl rfl rfl ?_
    refine v_load rfl rfl ⟨rfl, Nat.le_of_ble_eq_true rfl⟩ ?_
    refine v_ald9 rfl rfl ⟨by omega, by show _ < (300 : Int); omega⟩ ?_
    refine v_load rfl rfl ⟨rfl, Nat.le_of_ble_eq_true rfl⟩ ?_
    refine v_ieq rfl (fun _ => ?_) (fun h => absurd h (by omega))
    refine v_push rfl ?_
    refine v_store rfl ⟨rfl, Nat.le_of_ble_eq_true rfl, Nat.le_of_ble_eq_true rfl, rfl⟩ rfl ?_
    exact R_tlike_loop hX hP hR hq hm c k _ 0 (show (0 : Int) + (m.toNat : Int) = _ by omega) (fun x hx => absurd hx (Nat.not_lt_zero _))
  · rw [if_neg (fun y => c ((wrd_tp hm).mp y).1)] at k
    refine v_load rfl rfl ⟨rfl, Nat.le_of_ble_eq_true rfl⟩ ?_
    refine v_getp rfl rfl rfl ?_
    refine v_load rfl rfl ⟨rfl, Nat.le_of_ble_eq_true rfl⟩ ?_
    refine v_ald9 rfl rfl ⟨by omega, by show _ < (300 : Int); omega⟩ ?_
    refine v_load rfl rfl ⟨rfl, Nat.le_of_ble_eq_true rfl⟩ ?_
    refine v_ieq rfl (fun h => absurd h (by omega)) (fun _ => ?_)
    refine v_push rfl ?_
    first | refine v_ret rfl rfl ?_ | refine v_retz rfl (b2i_01 _) ?_ | refine v_retz rfl (by omega) ?_
    exact k
theorem R_tw_loop {m : Int} (hP : RTp tp M) (hm : 1 ≤ m ∧ m ≤ (tp.length : Int)) (k : Q (some (0, b2i (ltB tp m))) M) : ∀ (n i : Nat), (i : Int) + (n : Int) = m → (∀ x : Nat, x < i → isLet (tb tp (x : Int)) = true) → v_wp L (d + 2) 247 2 [(2, 77), (0, m), (0, (i : Int))] [] M Q := by
  intro n
  have hlp := hP.2.1
  induction n with
  | zero =>
    intro i hi hx
    rw [b2i_t (ltB_iff.mpr ⟨hm.1, hm.2, fun x hx' => hx x (by omega)⟩)] at k
    refine v_load rfl rfl ⟨rfl, Nat.le_of_ble_eq_true rfl⟩ ?_
    refine v_load rfl rfl ⟨rfl, Nat.le_of_ble_eq_true rfl⟩ ?_
    refine v_ige rfl (fun _ => ?_) (fun h => absurd h (by omega))
    refine v_push rfl ?_
    first | refine v_ret rfl rfl ?_ | refine v_retz rfl (b2i_01 _) ?_ | refine v_retz rfl (by omega) ?_
    exact k
  | succ n ih =>
    intro i hi hx
    have x2 : M 78 (i : Int) = tb tp (i : Int) := by rw [hP.2.2 i (by omega)]; unfold tb; rw [if_pos ⟨by omega, by omega⟩, Int.toNat_natCast]
    by_cases c : isLet (tb tp (i : Int)) = true
    · refine v_load rfl rfl ⟨rfl, Nat.le_of_ble_eq_true rfl⟩ ?_
      refine v_load rfl rfl ⟨rfl, Nat.le_of_ble_eq_true rfl⟩ ?_
      refine v_ige rfl (fun h => absurd h (by omega)) (fun _ => ?_)
      refine v_load rfl rfl ⟨rfl, Nat.le_of_ble_eq_true rfl⟩ ?_
      refine v_getp rfl rfl rfl ?_
      refine v_load rfl rfl ⟨rfl, Nat.le_of_ble_eq_true rfl⟩ ?_
      refine v_ald9 rfl rfl ⟨by omega, by show _ < (300 : Int); omega⟩ ?_
      rw [x2]
      refine v_callr rfl ⟨Nat.le_of_ble_eq_true rfl, Nat.le_of_ble_eq_true rfl, rfl, Nat.le_of_ble_eq_true rfl, rfl⟩ ?_
      refine R_isLetter ?_
      rw [b2i_t c]
      refine v_ifne rfl (fun _ => ?_) (fun h => absurd h (by decide))
      refine v_iinc rfl rfl rfl (by omega) rfl ?_
      refine v_goto rfl ?_
      exact ih (i + 1) (by omega) (fun x hx' => by by_cases e : x = i; (subst e; exact c); exact hx x (by omega))
    · rw [b2i_f (fun y => c ((ltB_iff.mp y).2.2 i (by omega)))] at k
      refine v_load rfl rfl ⟨rfl, Nat.le_of_ble_eq_true rfl⟩ ?_
      refine v_load rfl rfl ⟨rfl, Nat.le_of_ble_eq_true rfl⟩ ?_
      refine v_ige rfl (fun h => absurd h (by omega)) (fun _ => ?_)
      refine v_load rfl rfl ⟨rfl, Nat.le_of_ble_eq_true rfl⟩ ?_
      refine v_getp rfl rfl rfl ?_
      refine v_load rfl rfl ⟨rfl, Nat.le_of_ble_eq_true rfl⟩ ?_
      refine v_ald9 rfl rfl ⟨by omega, by show _ < (300 : Int); omega⟩ ?_
      rw [x2]
      refine v_callr rfl ⟨Nat.le_of_ble_eq_true rfl, Nat.le_of_ble_eq_true rfl, rfl, Nat.le_of_ble_eq_true rfl, rfl⟩ ?_
      refine R_isLetter ?_
      rw [b2i_f c]
      refine v_ifne rfl (fun h => absurd h (by decide)) (fun _ => ?_)
      refine v_push rfl ?_
      first | refine v_ret rfl rfl ?_ | refine v_retz rfl (b2i_01 _) ?_ | refine v_retz rfl (by omega) ?_
      exact k
theorem R_isTapeWord {m : Int} (hP : RTp tp M) (hm : 1 ≤ m ∧ m ≤ (tp.length : Int)) (k : Q (some (0, b2i (ltB tp m))) M) : v_call L (d + 2) 247 [(2, 77), (0, m)] M Q := by
  refine v_in ?_
  refine v_push rfl ?_
  refine v_store rfl ⟨rfl, Nat.le_of_ble_eq_true rfl, Nat.le_of_ble_eq_true rfl, rfl⟩ rfl ?_
  exact R_tw_loop hP hm k m.toNat 0 (by omega) (fun x hx => absurd hx (Nat.not_lt_zero _))
theorem R_areNames {i : Int} {j : Nat} (hS : RSt t M) (hi : (nd (NT (toks t)) i).1 = 12) (hj : j < (NT (toks t)).length) (k : Q (some (0, b2i (usN t (nd (NT (toks t)) i).2.2.2.2.2.1 j))) M) : v_call L (d + 1) 245 [(2, 77), (0, i), (0, (j : Int))] M Q := by
  have hk : b2i (usN t (nd (NT (toks t)) i).2.2.2.2.2.1 j) = if (nd (NT (toks t)) (j : Int)).1 = 12 ∧ wrd t (nd (NT (toks t)) (j : Int)).2.2.2.2.2.1 = wrd t (nd (NT (toks t)) i).2.2.2.2.2.1 then 1 else 0 := by unfold usN b2i; simp
  rw [hk] at k
  have hlN := NT_1216 hS
  obtain ⟨⟨n1, n2⟩, n3, n4, n5, n6⟩ := nam_i hi
  obtain ⟨g1, -, -, -, -, g6, -⟩ := TM_nd hS (i := i) ⟨by omega, by omega⟩
  obtain ⟨f1, -, -, -, -, f6, -⟩ := TM_nd hS (i := (j : Int)) ⟨by omega, by omega⟩
  rw [if_pos (by omega)] at g6
  refine v_in ?_
  by_cases c : (nd (NT (toks t)) (j : Int)).1 = 12
  · obtain ⟨⟨p1, p2⟩, p3, p4, p5, p6⟩ := nam_i c
    rw [if_pos (by omega)] at f6
    by_cases c2 : wrd t (nd (NT (toks t)) i).2.2.2.2.2.1 = wrd t (nd (NT (toks t)) (j : Int)).2.2.2.2.2.1
    · rw [if_pos ⟨c, c2.symm⟩] at k
      refine v_load rfl rfl ⟨rfl, Nat.le_of_ble_eq_true rfl⟩ ?_
      refine v_getp rfl rfl rfl ?_
      refine v_load rfl rfl ⟨rfl, Nat.le_of_ble_eq_true rfl⟩ ?_
      refine v_ald9 rfl rfl ⟨by omega, by show _ < (1600 : Int); omega⟩ ?_
      refine v_push rfl ?_
      refine v_ine rfl (fun h => absurd h (by omega)) (fun _ => ?_)
      refine v_load rfl rfl ⟨rfl, Nat.le_of_ble_eq_true rfl⟩ ?_
      refine v_getp rfl rfl rfl ?_
      refine v_load rfl rfl ⟨rfl, Nat.le_of_ble_eq_true rfl⟩ ?_
      refine v_ald9 rfl rfl ⟨by omega, by show _ < (1600 : Int); omega⟩ ?_
      refine v_push rfl ?_
      refine v_ine rfl (fun h => absurd h (by omega)) (fun _ => ?_)
      refine v_load rfl rfl ⟨rfl, Nat.le_of_ble_eq_true rfl⟩ ?_
      refine v_load rfl rfl ⟨rfl, Nat.le_of_ble_eq_true rfl⟩ ?_
      refine v_getp rfl rfl rfl ?_
      refine v_load rfl rfl ⟨rfl, Nat.le_of_ble_eq_true rfl⟩ ?_
      refine v_ald9 rfl rfl ⟨by omega, by show _ < (1600 : Int); omega⟩ ?_
      rw [g6]
      refine v_load rfl rfl ⟨rfl, Nat.le_of_ble_eq_true rfl⟩ ?_
      refine v_getp rfl rfl rfl ?_
      refine v_load rfl rfl ⟨rfl, Nat.le_of_ble_eq_true rfl⟩ ?_
      refine v_ald9 rfl rfl ⟨by omega, by show _ < (1600 : Int); omega⟩ ?_
      rw [f6]
      refine v_callr rfl ⟨Nat.le_of_ble_eq_true rfl, Nat.le_of_ble_eq_true rfl, rfl, Nat.le_of_ble_eq_true rfl, rfl⟩ ?_
      refine R_isLikeT hS.1 hS.2.1 ⟨n5, n6⟩ ⟨p5, p6⟩ ?_
      rw [if_pos c2]
      refine v_ifeq rfl (fun h => absurd h (by decide)) (fun _ => ?_)
      refine v_push rfl ?_
      refine v_goto rfl ?_
      first | refine v_ret rfl rfl ?_ | refine v_retz rfl (b2i_01 _) ?_ | refine v_retz rfl (by omega) ?_
      exact k
    · rw [if_neg (fun z => c2 z.2.symm)] at k
      refine v_load rfl rfl ⟨rfl, Nat.le_of_ble_eq_true rfl⟩ ?_
      refine v_getp rfl rfl rfl ?_
      refine v_load rfl rfl ⟨rfl, Nat.le_of_ble_eq_true rfl⟩ ?_
      refine v_ald9 rfl rfl ⟨by omega, by show _ < (1600 : Int); omega⟩ ?_
      refine v_push rfl ?_
      refine v_ine rfl (fun h => absurd h (by omega)) (fun _ => ?_)
      refine v_load rfl rfl ⟨rfl, Nat.le_of_ble_eq_true rfl⟩ ?_
      refine v_getp rfl rfl rfl ?_
      refine v_load rfl rfl ⟨rfl, Nat.le_of_ble_eq_true rfl⟩ ?_
      refine v_ald9 rfl rfl ⟨by omega, by show _ < (1600 : Int); omega⟩ ?_
      refine v_push rfl ?_
      refine v_ine rfl (fun h => absurd h (by omega)) (fun _ => ?_)
      refine v_load rfl rfl ⟨rfl, Nat.le_of_ble_eq_true rfl⟩ ?_
      refine v_load rfl rfl ⟨rfl, Nat.le_of_ble_eq_true rfl⟩ ?_
      refine v_getp rfl rfl rfl ?_
      refine v_load rfl rfl ⟨rfl, Nat.le_of_ble_eq_true rfl⟩ ?_
      refine v_ald9 rfl rfl ⟨by omega, by show _ < (1600 : Int); omega⟩ ?_
      rw [g6]
      refine v_load rfl rfl ⟨rfl, Nat.le_of_ble_eq_true rfl⟩ ?_
      refine v_getp rfl rfl rfl ?_
      refine v_load rfl rfl ⟨rfl, Nat.le_of_ble_eq_true rfl⟩ ?_
      refine v_ald9 rfl rfl ⟨by omega, by show _ < (1600 : Int); omega⟩ ?_
      rw [f6]
      refine v_callr rfl ⟨Nat.le_of_ble_eq_true rfl, Nat.le_of_ble_eq_true rfl, rfl, Nat.le_of_ble_eq_true rfl, rfl⟩ ?_
      refine R_isLikeT hS.1 hS.2.1 ⟨n5, n6⟩ ⟨p5, p6⟩ ?_
      rw [if_neg c2]
      refine v_ifeq rfl (fun _ => ?_) (fun h => absurd h (by decide))
      refine v_push rfl ?_
      first | refine v_ret rfl rfl ?_ | refine v_retz rfl (b2i_01 _) ?_ | refine v_retz rfl (by omega) ?_
      exact k
  · rw [if_neg (fun z => c z.1)] at k
    refine v_load rfl rfl ⟨rfl, Nat.le_of_ble_eq_true rfl⟩ ?_
    refine v_getp rfl rfl rfl ?_
    refine v_load rfl rfl ⟨rfl, Nat.le_of_ble_eq_true rfl⟩ ?_
    refine v_ald9 rfl rfl ⟨by omega, by show _ < (1600 : Int); omega⟩ ?_
    refine v_push rfl ?_
    refine v_ine rfl (fun h => absurd h (by omega)) (fun _ => ?_)
    refine v_load rfl rfl ⟨rfl, Nat.le_of_ble_eq_true rfl⟩ ?_
    refine v_getp rfl rfl rfl ?_
    refine v_load rfl rfl ⟨rfl, Nat.le_of_ble_eq_true rfl⟩ ?_
    refine v_ald9 rfl rfl ⟨by omega, by show _ < (1600 : Int); omega⟩ ?_
    refine v_push rfl ?_
    refine v_ine rfl (fun _ => ?_) (fun h => absurd h (by omega))
    refine v_push rfl ?_
    first | refine v_ret rfl rfl ?_ | refine v_retz rfl (b2i_01 _) ?_ | refine v_retz rfl (by omega) ?_
    exact k
theorem R_usesOf_loop {i : Int} (hS : RSt t M) (hi : (nd (NT (toks t)) i).1 = 12) (k : Q (some (0, ((NI t (nd (NT (toks t)) i).2.2.2.2.2.1 (NT (toks t)).length).length : Int))) M) : ∀ (n j : Nat), n = (NT (toks t)).length - j → j ≤ (NT (toks t)).length → v_wp L (d + 2) 246 4 [(2, 77), (0, i), (0, ((NI t (nd (NT (toks t)) i).2.2.2.2.2.1 j).length : Int)), (0, (j : Int))] [] M Q := by
  intro n
  have hlN := NT_1216 hS
  have h44 := (TM_len hS.2.2.1).1
  induction n with
  | zero =>
    intro j hn hj
    have ej : j = (NT (toks t)).length := by omega
    subst ej
    refine v_load rfl rfl ⟨rfl, Nat.le_of_ble_eq_true rfl⟩ ?_
    refine v_load rfl rfl ⟨rfl, Nat.le_of_ble_eq_true rfl⟩ ?_
    refine v_getx rfl rfl (h44) ?_
    refine v_ige rfl (fun _ => ?_) (fun h => absurd h (by omega))
    refine v_load rfl rfl ⟨rfl, Nat.le_of_ble_eq_true rfl⟩ ?_
    refine v_ret rfl rfl ?_
    exact k
  | succ n ih =>
    intro j hn hj
    have hll : (NI t (nd (NT (toks t)) i).2.2.2.2.2.1 j).length ≤ j := flt_len _ j
    have ihh := ih (j + 1) (by omega) (by omega)
    rw [show ((j + 1 : Nat) : Int) = (j : Int) + 1 by omega] at ihh
    by_cases c : usN t (nd (NT (toks t)) i).2.2.2.2.2.1 j = true
    · rw [NI_y c, List.length_append, show (((NI t (nd (NT (toks t)) i).2.2.2.2.2.1 j).length + [j].length : Nat) : Int) = ((NI t (nd (NT (toks t)) i).2.2.2.2.2.1 j).length : Int) + 1 by rw [List.length_singleton]; omega] at ihh
      refine v_load rfl rfl ⟨rfl, Nat.le_of_ble_eq_true rfl⟩ ?_
      refine v_load rfl rfl ⟨rfl, Nat.le_of_ble_eq_true rfl⟩ ?_
      refine v_getx rfl rfl (h44) ?_
      refine v_ige rfl (fun h => absurd h (by omega)) (fun _ => ?_)
      refine v_load rfl rfl ⟨rfl, Nat.le_of_ble_eq_true rfl⟩ ?_
      refine v_load rfl rfl ⟨rfl, Nat.le_of_ble_eq_true rfl⟩ ?_
      refine v_load rfl rfl ⟨rfl, Nat.le_of_ble_eq_true rfl⟩ ?_
      refine v_callr rfl ⟨Nat.le_of_ble_eq_true rfl, Nat.le_of_ble_eq_true rfl, rfl, Nat.le_of_ble_eq_true rfl, rfl⟩ ?_
      refine R_areNames hS hi (by omega) ?_
      rw [b2i_t c]
      refine v_ifeq rfl (fun h => absurd h (by decide)) (fun _ => ?_)
      refine v_load rfl rfl ⟨rfl, Nat.le_of_ble_eq_true rfl⟩ ?_
      refine v_push rfl ?_
      refine v_add rfl (by omega) ?_
      refine v_goto rfl ?_
      refine v_store rfl ⟨rfl, Nat.le_of_ble_eq_true rfl, Nat.le_of_ble_eq_true rfl, rfl⟩ rfl ?_
      refine v_iinc rfl rfl rfl (by omega) rfl ?_
      refine v_goto rfl ?_
      exact ihh
    · rw [NI_n c] at ihh
      refine v_load rfl rfl ⟨rfl, Nat.le_of_ble_eq_true rfl⟩ ?_
      refine v_load rfl rfl ⟨rfl, Nat.le_of_ble_eq_true rfl⟩ ?_
      refine v_getx rfl rfl (h44) ?_
      refine v_ige rfl (fun h => absurd h (by omega)) (fun _ => ?_)
      refine v_load rfl rfl ⟨rfl, Nat.le_of_ble_eq_true rfl⟩ ?_
      refine v_load rfl rfl ⟨rfl, Nat.le_of_ble_eq_true rfl⟩ ?_
      refine v_load rfl rfl ⟨rfl, Nat.le_of_ble_eq_true rfl⟩ ?_
      refine v_callr rfl ⟨Nat.le_of_ble_eq_true rfl, Nat.le_of_ble_eq_true rfl, rfl, Nat.le_of_ble_eq_true rfl, rfl⟩ ?_
      refine R_areNames hS hi (by omega) ?_
      rw [b2i_f c]
      refine v_ifeq rfl (fun _ => ?_) (fun h => absurd h (by decide))
      refine v_load rfl rfl ⟨rfl, Nat.le_of_ble_eq_true rfl⟩ ?_
      refine v_store rfl ⟨rfl, Nat.le_of_ble_eq_true rfl, Nat.le_of_ble_eq_true rfl, rfl⟩ rfl ?_
      refine v_iinc rfl rfl rfl (by omega) rfl ?_
      refine v_goto rfl ?_
      exact ihh
theorem R_usesOf {i : Int} (hS : RSt t M) (hi : (nd (NT (toks t)) i).1 = 12) (k : Q (some (0, ((TI t (nd (NT (toks t)) i).2.2.2.2.2.1 (toks t).length).length : Int))) M) : v_call L (d + 2) 246 [(2, 77), (0, i)] M Q := by
  rw [← NI_len] at k
  refine v_in ?_
  refine v_push rfl ?_
  refine v_store rfl ⟨rfl, Nat.le_of_ble_eq_true rfl, Nat.le_of_ble_eq_true rfl, rfl⟩ rfl ?_
  refine v_push rfl ?_
  refine v_store rfl ⟨rfl, Nat.le_of_ble_eq_true rfl, Nat.le_of_ble_eq_true rfl, rfl⟩ rfl ?_
  exact R_usesOf_loop hS hi k _ 0 rfl (Nat.zero_le _)
/-- the tape's bytes come -/
theorem R_ren_in {i m l3 l4 l5 l6 : Int} {l7 : Int} {fr : List Int} (M0 : zM) (hP : RTp tp M0) (hm : 1 ≤ m ∧ m ≤ (tp.length : Int)) (hfr : (fr.length : Int) + m ≤ 301) (k : ∀ M', RFr (fr ++ tp.take m.toNat) M' → oF M0 M' → ∀ w, v_wp L (d + 12) 249 196 [(2, 77), (0, i), (0, m), (0, l3), (0, l4), (0, l5), (0, l6), (0, l7), w] [] M' Q) : ∀ (n j : Nat) (Mc : zM), (j : Int) + (n : Int) = m → RFr (fr ++ tp.take j) Mc → oF M0 Mc → v_wp L (d + 12) 249 173 [(2, 77), (0, i), (0, m), (0, l3), (0, l4), (0, l5), (0, l6), (0, l7), (0, (j : Int))] [] Mc Q := by
  intro n
  have hl := hP.2.1
  induction n with
  | zero =>
    intro j Mc hj hF ho
    have ej : j = m.toNat := by omega
    subst ej
    refine v_load rfl rfl ⟨rfl, Nat.le_of_ble_eq_true rfl⟩ ?_
    refine v_load rfl rfl ⟨rfl, Nat.le_of_ble_eq_true rfl⟩ ?_
    refine v_ige rfl (fun _ => ?_) (fun h => absurd h (by omega))
    exact k Mc hF ho _
  | succ n ih =>
    intro j Mc hj hF ho
    have q : Mc 78 (j : Int) = tp.getD j 0 := (ho 78 _ (by decide) (by omega)).trans (hP.2.2 j (by omega))
    refine v_load rfl rfl ⟨rfl, Nat.le_of_ble_eq_true rfl⟩ ?_
    refine v_load rfl rfl ⟨rfl, Nat.le_of_ble_eq_true rfl⟩ ?_
    refine v_ige rfl (fun h => absurd h (by omega)) (fun _ => ?_)
    refine v_load rfl rfl ⟨rfl, Nat.le_of_ble_eq_true rfl⟩ ?_
    refine v_load rfl rfl ⟨rfl, Nat.le_of_ble_eq_true rfl⟩ ?_
    refine v_getp rfl rfl rfl ?_
    refine v_load rfl rfl ⟨rfl, Nat.le_of_ble_eq_true rfl⟩ ?_
    refine v_ald9 rfl rfl ⟨by omega, by show _ < (300 : Int); omega⟩ ?_
    rw [q]
    refine v_callr rfl ⟨Nat.le_of_ble_eq_true rfl, Nat.le_of_ble_eq_true rfl, rfl, Nat.le_of_ble_eq_true rfl, rfl⟩ ?_
    refine R_comes hF (by rw [List.length_append, List.length_take]; omega) (fun M1 f1 o1 => ?_)
    refine v_iinc rfl rfl rfl (by omega) rfl ?_
    refine v_goto rfl ?_
    refine ih (j + 1) M1 (by omega) ?_ (oF_tr ho o1)
    rw [List.take_succ, List.getElem?_eq_getElem (show j < tp.length by omega)]
    rw [List.getD_eq_getElem?_getD, List.getElem?_eq_getElem (show j < tp.length by omega), List.append_assoc] at f1
    exact f1
theorem NL_part {q : Int} {w : List Int} {j n : Nat} (h : j ≤ n) : ((mgF t (NL t q w j)).1.length) ≤ (mgF t (NL t q w n)).1.length := by
  obtain ⟨R, e⟩ := flt_pre (usN t q) j (n - j)
  rw [show j + (n - j) = n by omega] at e
  unfold NL NI
  rw [e, List.map_append]
  exact mgF_grow _
theorem NL_pos {q : Int} {w : List Int} {j : Nat} (h : NL t q w j ≠ []) : w.length ≤ (mgF t (NL t q w j)).1.length := by
  unfold NL at *
  cases e : NI t q j with
  | nil => rw [e] at h; exact absurd rfl h
  | cons x l =>
    show w.length ≤ ((l.map (ndP t w)).foldl (stp t) (w, pE t (x : Int))).1.length
    exact stp_grow _ (w, pE t (x : Int))
theorem R_ren_loop {i m l4 : Int} (M0 : zM) (hS : RSt t M0) (hP : RTp tp M0) (hi : (nd (NT (toks t)) i).1 = 12) (hm : 1 ≤ m ∧ m ≤ (tp.length : Int)) (hfl : (mgF t (NL t (nd (NT (toks t)) i).2.2.2.2.2.1 (tp.take m.toNat) (NT (toks t)).length)).1.length ≤ 300) (k : ∀ M', RFr (mgF t (NL t (nd (NT (toks t)) i).2.2.2.2.2.1 (tp.take m.toNat) (NT (toks t)).length)).1 M' → oF M0 M' → ∀ v w, v_wp L (d + 12) 249 210 [(2, 77), (0, i), (0, m), (0, (nd (NT (toks t)) i).2.2.2.2.2.1), (0, l4), (0, mgA (NL t (nd (NT (toks t)) i).2.2.2.2.2.1 (tp.take m.toNat) (NT (toks t)).length)), (0, (mgF t (NL t (nd (NT (toks t)) i).2.2.2.2.2.1 (tp.take m.toNat) (NT (toks t)).length)).2), v, w] [] M' Q) : ∀ (n j : Nat) (Mc : zM) (w : zV), n = (NT (toks t)).length - j → j ≤ (NT (toks t)).length → RFr (mgF t (NL t (nd (NT (toks t)) i).2.2.2.2.2.1 (tp.take m.toNat) j)).1 Mc → oF M0 Mc → v_wp L (d + 12) 249 110 [(2, 77), (0, i), (0, m), (0, (nd (NT (toks t)) i).2.2.2.2.2.1), (0, l4), (0, mgA (NL t (nd (NT (toks t)) i).2.2.2.2.2.1 (tp.take m.toNat) j)), (0, (mgF t (NL t (nd (NT (toks t)) i).2.2.2.2.2.1 (tp.take m.toNat) j)).2), (0, (j : Int)), w] [] Mc Q := by
  intro n
  have hlN := NT_1216 hS
  have hlp := hP.2.1
  have hwl : (((tp.take m.toNat).length : Nat) : Int) = m := by rw [List.length_take]; omega
  generalize hw : tp.take m.toNat = w0 at *
  generalize hq : (nd (NT (toks t)) i).2.2.2.2.2.1 = q at *
  induction n with
  | zero =>
    intro j Mc w hn hj hF ho
    have ej : j = (NT (toks t)).length := by omega
    subst ej
    have h44 : Mc 77 44 = ((NT (toks t)).length : Int) := by rw [ho 77 44 (by decide) (by decide)]; exact (TM_len hS.2.2.1).1
    refine v_load rfl rfl ⟨rfl, Nat.le_of_ble_eq_true rfl⟩ ?_
    refine v_load rfl rfl ⟨rfl, Nat.le_of_ble_eq_true rfl⟩ ?_
    refine v_getx rfl rfl (h44) ?_
    refine v_ige rfl (fun _ => ?_) (fun h => absurd h (by omega))
    exact k Mc hF ho _ _
  | succ n ih =>
    intro j Mc w hn hj hF ho
    have hSc : RSt t Mc := RSt_fr hS (fun j hj => ho 77 j (by decide) (by omega)) (fun b j hb => ho b j (by omega) (by omega))
    have h44 := (TM_len hSc.2.2.1).1
    have hin : 0 ≤ (j : Int) ∧ (j : Int) < ((NT (toks t)).length : Int) := ⟨by omega, by omega⟩
    have r1 := pF_rng t (j : Int)
    have r2 := pE_rng t (j : Int)
    have hgr := NL_part (t := t) (q := q) (w := w0) (j := j + 1) (n := (NT (toks t)).length) (by omega)
    have h5 := hF.1
    by_cases c : usN t q j = true
    · have hokj := NL_ok (t := t) (q := q) (w := w0) (n := j)
      -- the tape's bytes come behind fr
      have mid : ∀ (Md : zM) (fr : List Int) (v : zV), RFr fr Md → oF M0 Md → (mgF t (NL t q w0 (j + 1))).1 = fr ++ w0 → v_wp L (d + 12) 249 170 [(2, 77), (0, i), (0, m), (0, q), (0, l4), (0, mgA (NL t q w0 (j + 1))), (0, (mgF t (NL t q w0 j)).2), (0, (j : Int)), v] [] Md Q := by
        intro Md fr v hFd hod he
        have hPd : RTp tp Md := RTp_fr hP (hod 77 3 (by decide) (by decide)) (fun j => hod 78 j (by decide) (by omega))
        have hle : (fr.length : Int) + m ≤ 301 := by rw [he, List.length_append] at hgr; omega
        refine v_push rfl ?_
        refine v_store rfl ⟨rfl, Nat.le_of_ble_eq_true rfl, Nat.le_of_ble_eq_true rfl, rfl⟩ rfl ?_
        refine R_ren_in (d := d) (tp := tp) Md hPd hm hle (fun M2 f2 o2 w' => ?_) m.toNat 0 Md (by omega) (by rw [List.take_zero, List.append_nil]; exact hFd) oF_rf
        rw [hw, ← he] at f2
        have ho2 := oF_tr hod o2
        have hS2 : RSt t M2 := RSt_fr hS (fun j hj => ho2 77 j (by decide) (by omega)) (fun b j hb => ho2 b j (by omega) (by omega))
        have ihh := ih (j + 1) M2 w' (by omega) (by omega) f2 ho2
        have e2 : (mgF t (NL t q w0 (j + 1))).2 = pE t (j : Int) := by rw [NL_y c, mgF_snoc]; split <;> rfl
        rw [e2, show ((j + 1 : Nat) : Int) = (j : Int) + 1 by omega] at ihh
        refine v_load rfl rfl ⟨rfl, Nat.le_of_ble_eq_true rfl⟩ ?_
        refine v_load rfl rfl ⟨rfl, Nat.le_of_ble_eq_true rfl⟩ ?_
        refine v_callr rfl ⟨Nat.le_of_ble_eq_true rfl, Nat.le_of_ble_eq_true rfl, rfl, Nat.le_of_ble_eq_true rfl, rfl⟩ ?_
        refine R_to hS2 hin ?_
        refine v_store rfl ⟨rfl, Nat.le_of_ble_eq_true rfl, Nat.le_of_ble_eq_true rfl, rfl⟩ rfl ?_
        refine v_iinc rfl rfl rfl (by omega) rfl ?_
        refine v_goto rfl ?_
        exact ihh
      by_cases e0 : NL t q w0 j = []
      · have eA : mgA (NL t q w0 j) = -1 := by rw [e0]; rfl
        have eA' : mgA (NL t q w0 (j + 1)) = pF t (j : Int) := by rw [NL_y c, mgA_snoc, if_pos e0]; rfl
        have eF : (mgF t (NL t q w0 (j + 1))).1 = (mgF t (NL t q w0 j)).1 ++ w0 := by rw [NL_y c, mgF_snoc, if_pos e0, e0]; rfl
        have e5 : Mc 77 5 = 0 := by rw [h5, e0]; rfl
        have md := mid Mc _ w hF ho eF
        rw [eA'] at md
        refine v_load rfl rfl ⟨rfl, Nat.le_of_ble_eq_true rfl⟩ ?_
        refine v_load rfl rfl ⟨rfl, Nat.le_of_ble_eq_true rfl⟩ ?_
        refine v_getx rfl rfl (h44) ?_
        refine v_ige rfl (fun h => absurd h (by omega)) (fun _ => ?_)
        refine v_load rfl rfl ⟨rfl, Nat.le_of_ble_eq_true rfl⟩ ?_
        refine v_load rfl rfl ⟨rfl, Nat.le_of_ble_eq_true rfl⟩ ?_
        refine v_load rfl rfl ⟨rfl, Nat.le_of_ble_eq_true rfl⟩ ?_
        refine v_callr rfl ⟨Nat.le_of_ble_eq_true rfl, Nat.le_of_ble_eq_true rfl, rfl, Nat.le_of_ble_eq_true rfl, rfl⟩ ?_
        refine R_areNames hSc hi (by omega) ?_
        rw [hq, b2i_t c]
        refine v_ifne rfl (fun _ => ?_) (fun h => absurd h (by decide))
        refine v_load rfl rfl ⟨rfl, Nat.le_of_ble_eq_true rfl⟩ ?_
        refine v_push rfl ?_
        refine v_ine rfl (fun h => absurd h (by omega)) (fun _ => ?_)
        refine v_load rfl rfl ⟨rfl, Nat.le_of_ble_eq_true rfl⟩ ?_
        refine v_load rfl rfl ⟨rfl, Nat.le_of_ble_eq_true rfl⟩ ?_
        refine v_callr rfl ⟨Nat.le_of_ble_eq_true rfl, Nat.le_of_ble_eq_true rfl, rfl, Nat.le_of_ble_eq_true rfl, rfl⟩ ?_
        refine R_from hSc hin ?_
        refine v_goto rfl ?_
        refine v_store rfl ⟨rfl, Nat.le_of_ble_eq_true rfl, Nat.le_of_ble_eq_true rfl, rfl⟩ rfl ?_
        refine v_load rfl rfl ⟨rfl, Nat.le_of_ble_eq_true rfl⟩ ?_
        refine v_getx rfl rfl (e5) ?_
        refine v_ifle rfl (fun _ => ?_) (fun h => absurd h (by decide))
        exact md
      · have hA := mgA_rng (t := t) e0 hokj
        have hps := NL_pos e0
        have eA' : mgA (NL t q w0 (j + 1)) = mgA (NL t q w0 j) := by rw [NL_y c, mgA_snoc, if_neg e0]
        have eF : (mgF t (NL t q w0 (j + 1))).1 = (mgF t (NL t q w0 j)).1 ++ sub t (mgF t (NL t q w0 j)).2 (pF t (j : Int)) ++ w0 := by rw [NL_y c, mgF_snoc, if_neg e0]; rfl
        have hsl : ((mgF t (NL t q w0 j)).1.length : Int) + (pF t (j : Int) - (mgF t (NL t q w0 j)).2) ≤ 301 := by
          rw [eF, List.length_append, List.length_append] at hgr
          by_cases z : (mgF t (NL t q w0 j)).2 ≤ pF t (j : Int)
          · have := sub_len (t := t) (a := (mgF t (NL t q w0 j)).2) (b := pF t (j : Int)) ⟨by omega, z, r1.2⟩
            omega
          · omega
        refine v_load rfl rfl ⟨rfl, Nat.le_of_ble_eq_true rfl⟩ ?_
        refine v_load rfl rfl ⟨rfl, Nat.le_of_ble_eq_true rfl⟩ ?_
        refine v_getx rfl rfl (h44) ?_
        refine v_ige rfl (fun h => absurd h (by omega)) (fun _ => ?_)
        refine v_load rfl rfl ⟨rfl, Nat.le_of_ble_eq_true rfl⟩ ?_
        refine v_load rfl rfl ⟨rfl, Nat.le_of_ble_eq_true rfl⟩ ?_
        refine v_load rfl rfl ⟨rfl, Nat.le_of_ble_eq_true rfl⟩ ?_
        refine v_callr rfl ⟨Nat.le_of_ble_eq_true rfl, Nat.le_of_ble_eq_true rfl, rfl, Nat.le_of_ble_eq_true rfl, rfl⟩ ?_
        refine R_areNames hSc hi (by omega) ?_
        rw [hq, b2i_t c]
        refine v_ifne rfl (fun _ => ?_) (fun h => absurd h (by decide))
        refine v_load rfl rfl ⟨rfl, Nat.le_of_ble_eq_true rfl⟩ ?_
        refine v_push rfl ?_
        refine v_ine rfl (fun _ => ?_) (fun h => absurd h (by omega))
        refine v_load rfl rfl ⟨rfl, Nat.le_of_ble_eq_true rfl⟩ ?_
        refine v_store rfl ⟨rfl, Nat.le_of_ble_eq_true rfl, Nat.le_of_ble_eq_true rfl, rfl⟩ rfl ?_
        refine v_load rfl rfl ⟨rfl, Nat.le_of_ble_eq_true rfl⟩ ?_
        refine v_getx rfl rfl (h5) ?_
        refine v_ifle rfl (fun h => absurd h (by omega)) (fun _ => ?_)
        refine v_load rfl rfl ⟨rfl, Nat.le_of_ble_eq_true rfl⟩ ?_
        refine v_load rfl rfl ⟨rfl, Nat.le_of_ble_eq_true rfl⟩ ?_
        refine v_load rfl rfl ⟨rfl, Nat.le_of_ble_eq_true rfl⟩ ?_
        refine v_load rfl rfl ⟨rfl, Nat.le_of_ble_eq_true rfl⟩ ?_
        refine v_callr rfl ⟨Nat.le_of_ble_eq_true rfl, Nat.le_of_ble_eq_true rfl, rfl, Nat.le_of_ble_eq_true rfl, rfl⟩ ?_
        refine R_from hSc hin ?_
        refine v_callr rfl ⟨Nat.le_of_ble_eq_true rfl, Nat.le_of_ble_eq_true rfl, rfl, Nat.le_of_ble_eq_true rfl, rfl⟩ ?_
        refine R_comeText hF hSc.1 ⟨by omega, r1.2⟩ hsl (fun M2 f2 o2 => ?_)
        have md := mid M2 _ w f2 (oF_tr ho o2) eF; rw [eA'] at md; exact md
    · have ihh := ih (j + 1) Mc w (by omega) (by omega) (by rw [NL_n c]; exact hF) ho
      rw [NL_n c, show ((j + 1 : Nat) : Int) = (j : Int) + 1 by omega] at ihh
      refine v_load rfl rfl ⟨rfl, Nat.le_of_ble_eq_true rfl⟩ ?_
      refine v_load rfl rfl ⟨rfl, Nat.le_of_ble_eq_true rfl⟩ ?_
      refine v_getx rfl rfl (h44) ?_
      refine v_ige rfl (fun h => absurd h (by omega)) (fun _ => ?_)
      refine v_load rfl rfl ⟨rfl, Nat.le_of_ble_eq_true rfl⟩ ?_
      refine v_load rfl rfl ⟨rfl, Nat.le_of_ble_eq_true rfl⟩ ?_
      refine v_load rfl rfl ⟨rfl, Nat.le_of_ble_eq_true rfl⟩ ?_
      refine v_callr rfl ⟨Nat.le_of_ble_eq_true rfl, Nat.le_of_ble_eq_true rfl, rfl, Nat.le_of_ble_eq_true rfl, rfl⟩ ?_
      refine R_areNames hSc hi (by omega) ?_
      rw [hq, b2i_f c]
      refine v_ifne rfl (fun h => absurd h (by decide)) (fun _ => ?_)
      refine v_goto rfl ?_
      refine v_iinc rfl rfl rfl (by omega) rfl ?_
      refine v_goto rfl ?_
      exact ihh
end RN3
