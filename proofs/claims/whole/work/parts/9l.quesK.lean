/-! QUESTIONS: value, the reference -/
section QK
variable {L d n : Nat} {M : zM} {Q : Option zV → zM → Prop} {s : zA} {t : List Int}
theorem RS_127 {M' : zM} (h : RS s M) (ho : ∀ b j, b ≠ 127 → M' b j = M b j) : RS s M' := by
  obtain ⟨h1, h2, h3, h4, h5, h6, h7⟩ := h
  exact ⟨RSt_fr h1 (fun j _ => ho 77 j (by decide)) (fun b j hb => ho b j (by omega)), RTp_fr h2 (ho 77 3 (by decide)) (fun j => ho 78 j (by decide)), HRp_fr h3 (ho 77 65 (by decide)) (fun j => ho 125 j (by decide)), HRf_fr h4 (ho 77 66 (by decide)) (fun j => ho 126 j (by decide)), KPR_fr h5 (fun j _ => ho 77 j (by decide)) (fun b j hb => ho b j (by omega)), by rw [ho 77 67 (by decide)]; exact h6, by rw [ho 77 68 (by decide)]; exact h7⟩
theorem R_told_dig {j kk : Int} (hS : RSt t M) (hj : 0 ≤ j ∧ j < ((toks t).length : Int)) : ∀ (n : Nat) (p x : Int), p + (n : Int) = (tk (toks t) j).2.2.1 → 0 ≤ p → Q (some (1, dgL t n p x)) M → v_wp L (d + 2) 302 33 [(2, 77), (0, j), (0, kk), (1, x), (9, 0), (0, p)] [] M Q := by
  intro n
  have r := tk_rng (t := t) j
  have hl := hS.1.2.1
  induction n with
  | zero =>
    intro p x hp h0 k
    refine v_load rfl rfl ⟨rfl, Nat.le_of_ble_eq_true rfl⟩ ?_
    refine v_load rfl rfl ⟨rfl, Nat.le_of_ble_eq_true rfl⟩ ?_
    refine v_load rfl rfl ⟨rfl, Nat.le_of_ble_eq_true rfl⟩ ?_
    refine v_callr rfl ⟨Nat.le_of_ble_eq_true rfl, Nat.le_of_ble_eq_true rfl, rfl, Nat.le_of_ble_eq_true rfl, rfl⟩ ?_
    refine R_tokenEnd hS.2.1 hj ⟨by omega, by omega, by omega⟩ ?_
    refine v_ige rfl (fun _ => ?_) (fun h => absurd h (by omega))
    refine v_load rfl rfl ⟨rfl, Nat.le_of_ble_eq_true rfl⟩ ?_
    refine v_ret rfl rfl ?_
    exact k
  | succ n ih =>
    intro p x hp h0 k
    have gt := RX_at hS.1 (i := p) ⟨h0, by omega⟩
    unfold dgL at k
    rw [Int.mul_comm x 10] at k
    refine v_load rfl rfl ⟨rfl, Nat.le_of_ble_eq_true rfl⟩ ?_
    refine v_load rfl rfl ⟨rfl, Nat.le_of_ble_eq_true rfl⟩ ?_
    refine v_load rfl rfl ⟨rfl, Nat.le_of_ble_eq_true rfl⟩ ?_
    refine v_callr rfl ⟨Nat.le_of_ble_eq_true rfl, Nat.le_of_ble_eq_true rfl, rfl, Nat.le_of_ble_eq_true rfl, rfl⟩ ?_
    refine R_tokenEnd hS.2.1 hj ⟨by omega, by omega, by omega⟩ ?_
    refine v_ige rfl (fun h => absurd h (by omega)) (fun _ => ?_)
    refine v_lcon rfl ?_
    refine v_load rfl rfl ⟨rfl, Nat.le_of_ble_eq_true rfl⟩ ?_
    refine v_lalu rfl (by decide) (show z_lalu 2 _ _ = some (z_W _) from rfl) ?_
    refine v_load rfl rfl ⟨rfl, Nat.le_of_ble_eq_true rfl⟩ ?_
    refine v_getp rfl rfl rfl ?_
    refine v_load rfl rfl ⟨rfl, Nat.le_of_ble_eq_true rfl⟩ ?_
    refine v_ald9 rfl rfl ⟨by omega, by show _ < (300 : Int); omega⟩ ?_
    rw [gt]
    refine v_i2l rfl ?_
    refine v_lalu rfl (by decide) (show z_lalu 0 _ _ = some (z_W _) from rfl) ?_
    refine v_lcon rfl ?_
    refine v_lalu rfl (by decide) (show z_lalu 1 _ _ = some (z_W _) from rfl) ?_
    refine v_store rfl ⟨rfl, Nat.le_of_ble_eq_true rfl, (show 3 + 1 % 2 < 6 by decide), rfl⟩ rfl ?_
    refine v_iinc rfl rfl rfl (by omega) rfl ?_
    refine v_goto rfl ?_
    exact ih _ _ (by omega) (by omega) k
theorem R_numberTold {j : Int} (hS : RSt t M) (hj : 0 ≤ j ∧ j < ((toks t).length : Int)) (k : Q (some (1, dgt t (tk (toks t) j).2.1 (tk (toks t) j).2.2.1)) M) : v_call L (d + 2) 302 [(2, 77), (0, j)] M Q := by
  have r := tk_rng (t := t) j
  have hl := hS.1.2.1
  have hlT := hS.2.1.2.1
  have g2 := (RR_at hS.2.1 hj).2.1
  unfold dgt at k
  refine v_in ?_
  by_cases c : (tk (toks t) j).2.2.1 - 9 < (tk (toks t) j).2.1
  · rw [if_neg (by omega)] at k
    refine v_load rfl rfl ⟨rfl, Nat.le_of_ble_eq_true rfl⟩ ?_
    refine v_load rfl rfl ⟨rfl, Nat.le_of_ble_eq_true rfl⟩ ?_
    refine v_callr rfl ⟨Nat.le_of_ble_eq_true rfl, Nat.le_of_ble_eq_true rfl, rfl, Nat.le_of_ble_eq_true rfl, rfl⟩ ?_
    refine R_tokenEnd hS.2.1 hj ⟨by omega, by omega, by omega⟩ ?_
    refine v_push rfl ?_
    refine v_sub rfl (by omega) ?_
    refine v_store rfl ⟨rfl, Nat.le_of_ble_eq_true rfl, Nat.le_of_ble_eq_true rfl, rfl⟩ rfl ?_
    refine v_lcon rfl ?_
    refine v_store rfl ⟨rfl, Nat.le_of_ble_eq_true rfl, (show 3 + 1 % 2 < 6 by decide), rfl⟩ rfl ?_
    refine v_load rfl rfl ⟨rfl, Nat.le_of_ble_eq_true rfl⟩ ?_
    refine v_load rfl rfl ⟨rfl, Nat.le_of_ble_eq_true rfl⟩ ?_
    refine v_getp rfl rfl rfl ?_
    refine v_load rfl rfl ⟨rfl, Nat.le_of_ble_eq_true rfl⟩ ?_
    refine v_ald9 rfl rfl ⟨by omega, by show _ < (300 : Int); omega⟩ ?_
    rw [g2]
    refine v_ige rfl (fun h => absurd h (by omega)) (fun _ => ?_)
    refine v_load rfl rfl ⟨rfl, Nat.le_of_ble_eq_true rfl⟩ ?_
    refine v_getp rfl rfl rfl ?_
    refine v_load rfl rfl ⟨rfl, Nat.le_of_ble_eq_true rfl⟩ ?_
    refine v_ald9 rfl rfl ⟨by omega, by show _ < (300 : Int); omega⟩ ?_
    rw [g2]
    refine v_goto rfl ?_
    refine v_store rfl ⟨rfl, Nat.le_of_ble_eq_true rfl, Nat.le_of_ble_eq_true rfl, rfl⟩ rfl ?_
    exact R_told_dig hS hj _ _ _ (by omega) (by omega) k
  · have e : (if (tk (toks t) j).2.1 < (tk (toks t) j).2.2.1 - 9 then (tk (toks t) j).2.2.1 - 9 else (tk (toks t) j).2.1) = (tk (toks t) j).2.2.1 - 9 := by split <;> omega
    rw [e] at k
    refine v_load rfl rfl ⟨rfl, Nat.le_of_ble_eq_true rfl⟩ ?_
    refine v_load rfl rfl ⟨rfl, Nat.le_of_ble_eq_true rfl⟩ ?_
    refine v_callr rfl ⟨Nat.le_of_ble_eq_true rfl, Nat.le_of_ble_eq_true rfl, rfl, Nat.le_of_ble_eq_true rfl, rfl⟩ ?_
    refine R_tokenEnd hS.2.1 hj ⟨by omega, by omega, by omega⟩ ?_
    refine v_push rfl ?_
    refine v_sub rfl (by omega) ?_
    refine v_store rfl ⟨rfl, Nat.le_of_ble_eq_true rfl, Nat.le_of_ble_eq_true rfl, rfl⟩ rfl ?_
    refine v_lcon rfl ?_
    refine v_store rfl ⟨rfl, Nat.le_of_ble_eq_true rfl, (show 3 + 1 % 2 < 6 by decide), rfl⟩ rfl ?_
    refine v_load rfl rfl ⟨rfl, Nat.le_of_ble_eq_true rfl⟩ ?_
    refine v_load rfl rfl ⟨rfl, Nat.le_of_ble_eq_true rfl⟩ ?_
    refine v_getp rfl rfl rfl ?_
    refine v_load rfl rfl ⟨rfl, Nat.le_of_ble_eq_true rfl⟩ ?_
    refine v_ald9 rfl rfl ⟨by omega, by show _ < (300 : Int); omega⟩ ?_
    rw [g2]
    refine v_ige rfl (fun _ => ?_) (fun h => absurd h (by omega))
    refine v_load rfl rfl ⟨rfl, Nat.le_of_ble_eq_true rfl⟩ ?_
    refine v_store rfl ⟨rfl, Nat.le_of_ble_eq_true rfl, Nat.le_of_ble_eq_true rfl, rfl⟩ rfl ?_
    exact R_told_dig hS hj _ _ _ (by omega) (by omega) k
theorem R_reckoned {i : Int} (hS : RSt t M) (hi : 0 ≤ i ∧ i < ((NT (toks t)).length : Int)) (h : (nd (NT (toks t)) i).1 = 10 ∨ (nd (NT (toks t)) i).1 = 11) (k : Q (some (1, jn (nd (NT (toks t)) (kid t i 1)).2.2.2.2.2.2.2 (M 127 (kid t i 0)) (M 127 (kid t i 2)))) M) : v_call L (d + 2) 303 [(2, 77), (0, i)] M Q := by
  have hlN := NT_1216 hS
  have hl := hS.1.2.1
  obtain ⟨k3, k4⟩ := kids3 hi (Or.inr h)
  have k4 := k4 (by omega)
  have q0 := kid_in (t := t) (i := i) (k := 0) ⟨by omega, by omega⟩
  have q1 := kid_in (t := t) (i := i) (k := 1) ⟨by omega, by omega⟩
  have q2 := kid_in (t := t) (i := i) (k := 2) ⟨by omega, by omega⟩
  rw [kid_0 hi.1 (by omega)] at q0 k
  have mb := mk_byte (t := t) (m := kid t i 1) ⟨by omega, q1.2.1⟩ k4.1 k4.2
  have pr := pF_rng t (kid t i 1)
  have gt := RX_at hS.1 (i := pF t (kid t i 1)) ⟨pr.1, mb.2⟩
  rw [mb.1] at gt
  have pre : v_wp L (d + 2) 303 39 [(2, 77), (0, i), (0, kid t i 1), (1, M 127 (i + 1)), (9, 0), (1, M 127 (kid t i 2)), (9, 0)] [(0, (nd (NT (toks t)) (kid t i 1)).2.2.2.2.2.2.2)] M Q → v_wp L (d + 2) 303 0 (z_ent (z_ml 303) [(2, 77), (0, i)]) [] M Q := by
    intro kk
    refine v_load rfl rfl ⟨rfl, Nat.le_of_ble_eq_true rfl⟩ ?_
    refine v_load rfl rfl ⟨rfl, Nat.le_of_ble_eq_true rfl⟩ ?_
    refine v_push rfl ?_
    refine v_callr rfl ⟨Nat.le_of_ble_eq_true rfl, Nat.le_of_ble_eq_true rfl, rfl, Nat.le_of_ble_eq_true rfl, rfl⟩ ?_
    refine R_childOf hS hi ⟨by omega, by omega⟩ ?_
    refine v_store rfl ⟨rfl, Nat.le_of_ble_eq_true rfl, Nat.le_of_ble_eq_true rfl, rfl⟩ rfl ?_
    refine v_load rfl rfl ⟨rfl, Nat.le_of_ble_eq_true rfl⟩ ?_
    refine v_getp rfl rfl rfl ?_
    refine v_load rfl rfl ⟨rfl, Nat.le_of_ble_eq_true rfl⟩ ?_
    refine v_push rfl ?_
    refine v_add rfl (by omega) ?_
    refine v_ald10 rfl rfl ⟨by omega, by show _ < (1600 : Int); omega⟩ ?_
    refine v_store rfl ⟨rfl, Nat.le_of_ble_eq_true rfl, (show 3 + 1 % 2 < 7 by decide), rfl⟩ rfl ?_
    refine v_load rfl rfl ⟨rfl, Nat.le_of_ble_eq_true rfl⟩ ?_
    refine v_getp rfl rfl rfl ?_
    refine v_load rfl rfl ⟨rfl, Nat.le_of_ble_eq_true rfl⟩ ?_
    refine v_load rfl rfl ⟨rfl, Nat.le_of_ble_eq_true rfl⟩ ?_
    refine v_push rfl ?_
    refine v_callr rfl ⟨Nat.le_of_ble_eq_true rfl, Nat.le_of_ble_eq_true rfl, rfl, Nat.le_of_ble_eq_true rfl, rfl⟩ ?_
    refine R_childOf hS hi ⟨by omega, by omega⟩ ?_
    refine v_ald10 rfl rfl ⟨by omega, by show _ < (1600 : Int); omega⟩ ?_
    refine v_store rfl ⟨rfl, Nat.le_of_ble_eq_true rfl, (show 5 + 1 % 2 < 7 by decide), rfl⟩ rfl ?_
    refine v_load rfl rfl ⟨rfl, Nat.le_of_ble_eq_true rfl⟩ ?_
    refine v_getp rfl rfl rfl ?_
    refine v_load rfl rfl ⟨rfl, Nat.le_of_ble_eq_true rfl⟩ ?_
    refine v_load rfl rfl ⟨rfl, Nat.le_of_ble_eq_true rfl⟩ ?_
    refine v_callr rfl ⟨Nat.le_of_ble_eq_true rfl, Nat.le_of_ble_eq_true rfl, rfl, Nat.le_of_ble_eq_true rfl, rfl⟩ ?_
    refine R_from hS ⟨by omega, q1.2.1⟩ ?_
    refine v_ald9 rfl rfl ⟨by omega, by show _ < (300 : Int); omega⟩ ?_
    rw [gt]
    exact kk
  refine v_in (pre ?_)
  generalize (nd (NT (toks t)) (kid t i 1)).2.2.2.2.2.2.2 = g at *
  generalize M 127 (i + 1) = l at *
  generalize M 127 (kid t i 2) = r at *
  unfold jn at k
  by_cases c1 : g = 43
  · subst c1
    refine v_tsw rfl ?_
    refine v_load rfl rfl ⟨rfl, Nat.le_of_ble_eq_true rfl⟩ ?_
    refine v_load rfl rfl ⟨rfl, Nat.le_of_ble_eq_true rfl⟩ ?_
    refine v_lalu rfl (by decide) (show z_lalu 0 _ _ = some (z_W _) from rfl) ?_
    refine v_ret rfl rfl ?_
    exact k
  · by_cases c2 : g = 45
    · subst c2
      refine v_tsw rfl ?_
      refine v_load rfl rfl ⟨rfl, Nat.le_of_ble_eq_true rfl⟩ ?_
      refine v_load rfl rfl ⟨rfl, Nat.le_of_ble_eq_true rfl⟩ ?_
      refine v_lalu rfl (by decide) (show z_lalu 1 _ _ = some (z_W _) from rfl) ?_
      refine v_ret rfl rfl ?_
      exact k
    · by_cases c3 : g = 42
      · subst c3
        refine v_tsw rfl ?_
        refine v_load rfl rfl ⟨rfl, Nat.le_of_ble_eq_true rfl⟩ ?_
        refine v_load rfl rfl ⟨rfl, Nat.le_of_ble_eq_true rfl⟩ ?_
        refine v_lalu rfl (by decide) (show z_lalu 2 _ _ = some (z_W _) from rfl) ?_
        refine v_ret rfl rfl ?_
        exact k
      · rw [if_neg c1, if_neg c2, if_neg c3] at k
        have esw : (z_sw 83 g [(42, 78), (43, 68), (44, 83), (45, 73)]).toNat = 83 := by
          unfold z_sw; rw [if_neg c3]
          unfold z_sw; rw [if_neg c1]
          unfold z_sw
          by_cases c4 : g = 44
          · rw [if_pos c4]; rfl
          · rw [if_neg c4]
            unfold z_sw; rw [if_neg c2]
            rfl
        by_cases c4 : r = 0
        · subst c4
          rw [if_pos rfl] at k
          refine v_tsw rfl ?_
          rw [esw]
          refine v_load rfl rfl ⟨rfl, Nat.le_of_ble_eq_true rfl⟩ ?_
          refine v_lcon rfl ?_
          refine v_lcmp rfl ?_
          refine v_ifne rfl (fun h => absurd h (by decide)) (fun _ => ?_)
          refine v_lcon rfl ?_
          refine v_goto rfl ?_
          refine v_ret rfl rfl ?_
          exact k
        · rw [if_neg c4] at k
          have ec : ¬ z_cmp r 0 = 0 := by unfold z_cmp; repeat' split; all_goals omega
          have hz : z_lalu 3 l r = some (z_W (l.tdiv r)) := by
            show (if r = 0 then none else some (z_W _)) = _
            rw [if_neg c4]
          refine v_tsw rfl ?_
          rw [esw]
          refine v_load rfl rfl ⟨rfl, Nat.le_of_ble_eq_true rfl⟩ ?_
          refine v_lcon rfl ?_
          refine v_lcmp rfl ?_
          refine v_ifne rfl (fun _ => ?_) (fun h => absurd h (ec))
          refine v_load rfl rfl ⟨rfl, Nat.le_of_ble_eq_true rfl⟩ ?_
          refine v_load rfl rfl ⟨rfl, Nat.le_of_ble_eq_true rfl⟩ ?_
          refine v_lalu rfl (by decide) hz ?_
          refine v_ret rfl rfl ?_
          exact k
theorem lf_pp {i : Int} (hi : 0 ≤ i ∧ i < ((NT (toks t)).length : Int)) (h : (nd (NT (toks t)) i).1 = 13 ∨ (nd (NT (toks t)) i).1 = 14) : (nd (NT (toks t)) i).2.2.2.2.2.2.1 = 1 ∧ (0 ≤ (nd (NT (toks t)) i).2.2.2.2.2.1 ∧ (nd (NT (toks t)) i).2.2.2.2.2.1 < ((toks t).length : Int)) ∧ pF t i = (tk (toks t) (nd (NT (toks t)) i).2.2.2.2.2.1).2.1 ∧ pE t i = (tk (toks t) (nd (NT (toks t)) i).2.2.2.2.2.1).2.2.1 := by
  have l := leaf1 hi (by omega)
  obtain ⟨l1, l2⟩ := l.2.2.2.2 (by omega)
  refine ⟨l1, l2.1, ?_, ?_⟩
  · unfold pF; rw [if_neg (by omega), if_neg (by omega)]
  · unfold pE; rw [if_neg (by omega), l1, show (nd (NT (toks t)) i).2.2.2.2.2.1 + 1 - 1 = (nd (NT (toks t)) i).2.2.2.2.2.1 by omega]
theorem R_valueOf {i : Int} (hi : 0 ≤ i ∧ i < ((NT (toks t)).length : Int)) (hS : RSt t M) (hW : ∀ x, i < x → x < i + (nd (NT (toks t)) i).2.2.2.1 → M 127 x = V t x) (k : Q (some (1, V t i)) M) : v_call L (d + 3) 304 [(2, 77), (0, i)] M Q := by
  have hlN := NT_1216 hS
  have hl := hS.1.2.1
  have hlT := hS.2.1.2.1
  rw [V_eq hi, ← vst_ext (W := M 127) hi hW] at k
  obtain ⟨g1, -, -, -, -, g6, -, -⟩ := TM_nd hS hi
  refine v_in ?_
  unfold vst at k
  by_cases c1 : (nd (NT (toks t)) i).1 = 13
  · obtain ⟨l1, l2, l3, l4⟩ := lf_pp hi (Or.inl c1)
    rw [if_pos c1, l3, l4] at k
    rw [if_pos (by omega)] at g6
    refine v_load rfl rfl ⟨rfl, Nat.le_of_ble_eq_true rfl⟩ ?_
    refine v_getp rfl rfl rfl ?_
    refine v_load rfl rfl ⟨rfl, Nat.le_of_ble_eq_true rfl⟩ ?_
    refine v_ald9 rfl rfl ⟨by omega, by show _ < (1600 : Int); omega⟩ ?_
    rw [g1, c1]
    refine v_tsw rfl ?_
    refine v_load rfl rfl ⟨rfl, Nat.le_of_ble_eq_true rfl⟩ ?_
    refine v_load rfl rfl ⟨rfl, Nat.le_of_ble_eq_true rfl⟩ ?_
    refine v_getp rfl rfl rfl ?_
    refine v_load rfl rfl ⟨rfl, Nat.le_of_ble_eq_true rfl⟩ ?_
    refine v_ald9 rfl rfl ⟨by omega, by show _ < (1600 : Int); omega⟩ ?_
    rw [g6]
    refine v_callr rfl ⟨Nat.le_of_ble_eq_true rfl, Nat.le_of_ble_eq_true rfl, rfl, Nat.le_of_ble_eq_true rfl, rfl⟩ ?_
    refine R_numberTold hS l2 ?_
    refine v_ret rfl rfl ?_
    exact k
  · rw [if_neg c1] at k
    by_cases c2 : (nd (NT (toks t)) i).1 = 14
    · obtain ⟨l1, l2, l3, l4⟩ := lf_pp hi (Or.inr c2)
      rw [if_pos c2, l3, l4] at k
      rw [if_pos (by omega)] at g6
      have g3 := (RR_at hS.2.1 l2).2.2.1
      have r := tk_rng (t := t) (nd (NT (toks t)) i).2.2.2.2.2.1
      have hz : z_lalu 1 ((tk (toks t) (nd (NT (toks t)) i).2.2.2.2.2.1).2.2.1 - (tk (toks t) (nd (NT (toks t)) i).2.2.2.2.2.1).2.1) 2 = some ((tk (toks t) (nd (NT (toks t)) i).2.2.2.2.2.1).2.2.1 - (tk (toks t) (nd (NT (toks t)) i).2.2.2.2.2.1).2.1 - 2) := by
        show some (z_W _) = _
        rw [z_W_id ⟨by omega, by omega⟩]
      refine v_load rfl rfl ⟨rfl, Nat.le_of_ble_eq_true rfl⟩ ?_
      refine v_getp rfl rfl rfl ?_
      refine v_load rfl rfl ⟨rfl, Nat.le_of_ble_eq_true rfl⟩ ?_
      refine v_ald9 rfl rfl ⟨by omega, by show _ < (1600 : Int); omega⟩ ?_
      rw [g1, c2]
      refine v_tsw rfl ?_
      refine v_load rfl rfl ⟨rfl, Nat.le_of_ble_eq_true rfl⟩ ?_
      refine v_getp rfl rfl rfl ?_
      refine v_load rfl rfl ⟨rfl, Nat.le_of_ble_eq_true rfl⟩ ?_
      refine v_getp rfl rfl rfl ?_
      refine v_load rfl rfl ⟨rfl, Nat.le_of_ble_eq_true rfl⟩ ?_
      refine v_ald9 rfl rfl ⟨by omega, by show _ < (1600 : Int); omega⟩ ?_
      rw [g6]
      refine v_ald9 rfl rfl ⟨by omega, by show _ < (300 : Int); omega⟩ ?_
      rw [g3]
      refine v_i2l rfl ?_
      refine v_lcon rfl ?_
      refine v_lalu rfl (by decide) hz ?_
      refine v_ret rfl rfl ?_
      exact k
    · rw [if_neg c2] at k
      by_cases c3 : (nd (NT (toks t)) i).1 = 15
      · have k3 := (kids3 hi (Or.inl c3)).1
        have q1 := kid_in (t := t) (i := i) (k := 1) ⟨by omega, by omega⟩
        rw [if_pos c3] at k
        refine v_load rfl rfl ⟨rfl, Nat.le_of_ble_eq_true rfl⟩ ?_
        refine v_getp rfl rfl rfl ?_
        refine v_load rfl rfl ⟨rfl, Nat.le_of_ble_eq_true rfl⟩ ?_
        refine v_ald9 rfl rfl ⟨by omega, by show _ < (1600 : Int); omega⟩ ?_
        rw [g1, c3]
        refine v_tsw rfl ?_
        refine v_load rfl rfl ⟨rfl, Nat.le_of_ble_eq_true rfl⟩ ?_
        refine v_getp rfl rfl rfl ?_
        refine v_load rfl rfl ⟨rfl, Nat.le_of_ble_eq_true rfl⟩ ?_
        refine v_load rfl rfl ⟨rfl, Nat.le_of_ble_eq_true rfl⟩ ?_
        refine v_push rfl ?_
        refine v_callr rfl ⟨Nat.le_of_ble_eq_true rfl, Nat.le_of_ble_eq_true rfl, rfl, Nat.le_of_ble_eq_true rfl, rfl⟩ ?_
        refine R_childOf hS hi ⟨by omega, by omega⟩ ?_
        refine v_ald10 rfl rfl ⟨by omega, by show _ < (1600 : Int); omega⟩ ?_
        refine v_ret rfl rfl ?_
        exact k
      · rw [if_neg c3] at k
        by_cases c4 : (nd (NT (toks t)) i).1 = 10 ∨ (nd (NT (toks t)) i).1 = 11
        · rw [if_pos c4] at k
          by_cases c5 : (nd (NT (toks t)) i).1 = 10
          · refine v_load rfl rfl ⟨rfl, Nat.le_of_ble_eq_true rfl⟩ ?_
            refine v_getp rfl rfl rfl ?_
            refine v_load rfl rfl ⟨rfl, Nat.le_of_ble_eq_true rfl⟩ ?_
            refine v_ald9 rfl rfl ⟨by omega, by show _ < (1600 : Int); omega⟩ ?_
            rw [g1, c5]
            refine v_tsw rfl ?_
            refine v_load rfl rfl ⟨rfl, Nat.le_of_ble_eq_true rfl⟩ ?_
            refine v_load rfl rfl ⟨rfl, Nat.le_of_ble_eq_true rfl⟩ ?_
            refine v_callr rfl ⟨Nat.le_of_ble_eq_true rfl, Nat.le_of_ble_eq_true rfl, rfl, Nat.le_of_ble_eq_true rfl, rfl⟩ ?_
            refine R_reckoned hS hi c4 ?_
            refine v_ret rfl rfl ?_
            exact k
          · refine v_load rfl rfl ⟨rfl, Nat.le_of_ble_eq_true rfl⟩ ?_
            refine v_getp rfl rfl rfl ?_
            refine v_load rfl rfl ⟨rfl, Nat.le_of_ble_eq_true rfl⟩ ?_
            refine v_ald9 rfl rfl ⟨by omega, by show _ < (1600 : Int); omega⟩ ?_
            rw [g1, show (nd (NT (toks t)) i).1 = 11 by omega]
            refine v_tsw rfl ?_
            refine v_load rfl rfl ⟨rfl, Nat.le_of_ble_eq_true rfl⟩ ?_
            refine v_load rfl rfl ⟨rfl, Nat.le_of_ble_eq_true rfl⟩ ?_
            refine v_callr rfl ⟨Nat.le_of_ble_eq_true rfl, Nat.le_of_ble_eq_true rfl, rfl, Nat.le_of_ble_eq_true rfl, rfl⟩ ?_
            refine R_reckoned hS hi c4 ?_
            refine v_ret rfl rfl ?_
            exact k
        · rw [if_neg c4] at k
          have esw : (z_sw 90 (nd (NT (toks t)) i).1 [(10, 84), (11, 84), (12, 90), (13, 44), (14, 55), (15, 72)]).toNat = 90 := by
            generalize (nd (NT (toks t)) i).1 = so at *
            unfold z_sw; rw [if_neg (by omega)]
            unfold z_sw; rw [if_neg (by omega)]
            unfold z_sw
            by_cases c5 : so = 12
            · rw [if_pos c5]; rfl
            · rw [if_neg c5]
              unfold z_sw; rw [if_neg (by omega)]
              unfold z_sw; rw [if_neg (by omega)]
              unfold z_sw; rw [if_neg (by omega)]
              rfl
          refine v_load rfl rfl ⟨rfl, Nat.le_of_ble_eq_true rfl⟩ ?_
          refine v_getp rfl rfl rfl ?_
          refine v_load rfl rfl ⟨rfl, Nat.le_of_ble_eq_true rfl⟩ ?_
          refine v_ald9 rfl rfl ⟨by omega, by show _ < (1600 : Int); omega⟩ ?_
          rw [g1]
          refine v_tsw rfl ?_
          rw [esw]
          refine v_lcon rfl ?_
          refine v_ret rfl rfl ?_
          exact k
theorem RSt_127 {M' : zM} (h : RSt t M) (ho : ∀ b j, b ≠ 127 → M' b j = M b j) : RSt t M' := RSt_fr h (fun j _ => ho 77 j (by decide)) (fun b j hb => ho b j (by omega))
theorem R_val_loop {i : Int} (M0 : zM) (hi : 0 ≤ i ∧ i < ((NT (toks t)).length : Int)) (hS : RSt t M0) (k : ∀ M', (∀ b j, b ≠ 127 → M' b j = M0 b j) → Q (some (1, V t i)) M') : ∀ (n : Nat) (x : Int) (Mc : zM), x + 1 = i + (n : Int) → x < i + (nd (NT (toks t)) i).2.2.2.1 → (∀ b j, b ≠ 127 → Mc b j = M0 b j) → (∀ y, x < y → y < i + (nd (NT (toks t)) i).2.2.2.1 → Mc 127 y = V t y) → v_wp L (d + 4) 306 31 [(2, 77), (0, i), (0, x)] [] Mc Q := by
  intro n
  have hlN := NT_1216 hS
  have z := NT_siz hi
  induction n with
  | zero =>
    intro x Mc hx hx' ho hw
    refine v_load rfl rfl ⟨rfl, Nat.le_of_ble_eq_true rfl⟩ ?_
    refine v_load rfl rfl ⟨rfl, Nat.le_of_ble_eq_true rfl⟩ ?_
    refine v_ilt rfl (fun _ => ?_) (fun h => absurd h (by omega))
    refine v_load rfl rfl ⟨rfl, Nat.le_of_ble_eq_true rfl⟩ ?_
    refine v_getp rfl rfl rfl ?_
    refine v_load rfl rfl ⟨rfl, Nat.le_of_ble_eq_true rfl⟩ ?_
    refine v_ald10 rfl rfl ⟨by omega, by show _ < (1600 : Int); omega⟩ ?_
    refine v_ret rfl rfl ?_
    rw [hw i (by omega) (by omega)]
    exact k Mc ho
  | succ n ih =>
    intro x Mc hx hx' ho hw
    have hxi : 0 ≤ x ∧ x < ((NT (toks t)).length : Int) := ⟨by omega, by omega⟩
    have hle : x + (nd (NT (toks t)) x).2.2.2.1 ≤ i + (nd (NT (toks t)) i).2.2.2.1 := by
      by_cases c : x = i
      · rw [c]; omega
      · exact (nest hi ⟨by omega, hx'⟩).2.1
    refine v_load rfl rfl ⟨rfl, Nat.le_of_ble_eq_true rfl⟩ ?_
    refine v_load rfl rfl ⟨rfl, Nat.le_of_ble_eq_true rfl⟩ ?_
    refine v_ilt rfl (fun h => absurd h (by omega)) (fun _ => ?_)
    refine v_load rfl rfl ⟨rfl, Nat.le_of_ble_eq_true rfl⟩ ?_
    refine v_getp rfl rfl rfl ?_
    refine v_load rfl rfl ⟨rfl, Nat.le_of_ble_eq_true rfl⟩ ?_
    refine v_load rfl rfl ⟨rfl, Nat.le_of_ble_eq_true rfl⟩ ?_
    refine v_load rfl rfl ⟨rfl, Nat.le_of_ble_eq_true rfl⟩ ?_
    refine v_callr rfl ⟨Nat.le_of_ble_eq_true rfl, Nat.le_of_ble_eq_true rfl, rfl, Nat.le_of_ble_eq_true rfl, rfl⟩ ?_
    refine R_valueOf hxi (RSt_127 hS ho) (fun y h1 h2 => hw y h1 (by omega)) ?_
    refine v_ast10 rfl rfl (by decide) ⟨by omega, by show _ < (1600 : Int); omega⟩ ?_
    refine v_iinc rfl rfl rfl (by omega) rfl ?_
    refine v_goto rfl ?_
    refine ih _ _ (by omega) (by omega) (fun b j hb => by rw [show z_upd Mc 127 x (V t x) b j = Mc b j from by simp [z_upd, hb]]; exact ho b j hb) (fun y h1 h2 => ?_)
    by_cases c : y = x
    · rw [c, u_eq]
    · rw [u_n2 c]; exact hw y (by omega) h2
theorem R_hasValue {i : Int} (hS : RSt t M) (hi : 0 ≤ i ∧ i < ((NT (toks t)).length : Int)) (k : Q (some (0, b2i (hasV (nd (NT (toks t)) i).1))) M) : v_call L (d + 2) 305 [(2, 77), (0, i)] M Q := by
  have hlN := NT_1216 hS
  have g1 := (TM_nd hS hi).1
  have hk : b2i (hasV (nd (NT (toks t)) i).1) = if (10 ≤ (nd (NT (toks t)) i).1 ∧ (nd (NT (toks t)) i).1 ≤ 15) ∨ (nd (NT (toks t)) i).1 = 17 then 1 else 0 := by unfold hasV b2i; simp
  rw [hk] at k
  refine v_in ?_
  by_cases c : 10 ≤ (nd (NT (toks t)) i).1 ∧ (nd (NT (toks t)) i).1 ≤ 15
  · rw [if_pos (Or.inl c)] at k
    refine v_load rfl rfl ⟨rfl, Nat.le_of_ble_eq_true rfl⟩ ?_
    refine v_getp rfl rfl rfl ?_
    refine v_load rfl rfl ⟨rfl, Nat.le_of_ble_eq_true rfl⟩ ?_
    refine v_ald9 rfl rfl ⟨by omega, by show _ < (1600 : Int); omega⟩ ?_
    rw [g1]
    refine v_push rfl ?_
    refine v_push rfl ?_
    refine v_callr rfl ⟨Nat.le_of_ble_eq_true rfl, Nat.le_of_ble_eq_true rfl, rfl, Nat.le_of_ble_eq_true rfl, rfl⟩ ?_
    refine R_in ?_
    rw [b2i_t (decide_eq_true c)]
    refine v_ifne rfl (fun _ => ?_) (fun h => absurd h (by decide))
    refine v_push rfl ?_
    refine v_goto rfl ?_
    first | refine v_ret rfl rfl ?_ | refine v_retz rfl (b2i_01 _) ?_ | refine v_retz rfl (by omega) ?_
    exact k
  · refine v_load rfl rfl ⟨rfl, Nat.le_of_ble_eq_true rfl⟩ ?_
    refine v_getp rfl rfl rfl ?_
    refine v_load rfl rfl ⟨rfl, Nat.le_of_ble_eq_true rfl⟩ ?_
    refine v_ald9 rfl rfl ⟨by omega, by show _ < (1600 : Int); omega⟩ ?_
    rw [g1]
    refine v_push rfl ?_
    refine v_push rfl ?_
    refine v_callr rfl ⟨Nat.le_of_ble_eq_true rfl, Nat.le_of_ble_eq_true rfl, rfl, Nat.le_of_ble_eq_true rfl, rfl⟩ ?_
    refine R_in ?_
    rw [b2i_f (by simpa using c)]
    refine v_ifne rfl (fun h => absurd h (by decide)) (fun _ => ?_)
    refine v_load rfl rfl ⟨rfl, Nat.le_of_ble_eq_true rfl⟩ ?_
    refine v_getp rfl rfl rfl ?_
    refine v_load rfl rfl ⟨rfl, Nat.le_of_ble_eq_true rfl⟩ ?_
    refine v_ald9 rfl rfl ⟨by omega, by show _ < (1600 : Int); omega⟩ ?_
    rw [g1]
    refine v_push rfl ?_
    refine v_ine rfl (fun c1 => ?_) (fun c1 => ?_)
    · refine v_push rfl ?_
      refine v_retz rfl (by first | exact Or.inl rfl | exact Or.inr rfl | exact b2i_01 _ | omega) ?_
      exact qeq k (by split <;> omega)
    · refine v_push rfl ?_
      refine v_goto rfl ?_
      refine v_retz rfl (by first | exact Or.inl rfl | exact Or.inr rfl | exact b2i_01 _ | omega) ?_
      exact qeq k (by split <;> omega)
theorem R_value {i : Int} (hC : RS s M) (hi32 : z_i32 i) (k : ∀ M', RS s M' → z_oR 77 127 M M' → Q (some (1, valueQ s i)) M') : v_call L (d + 10) 306 [(2, 77), (0, i)] M Q := by
  have hS := hC.1
  have hlN := NT_1216 hS
  unfold valueQ at k
  refine v_in ?_
  by_cases ci : 0 ≤ i ∧ i ≤ ((NT (toks s.1.1)).length : Int) - 1
  · have hi : 0 ≤ i ∧ i < ((NT (toks s.1.1)).length : Int) := ⟨ci.1, by omega⟩
    have z := NT_siz hi
    have g4 := (TM_nd hS hi).2.2.2.1
    by_cases c : hasV (nd (NT (toks s.1.1)) i).1 = true
    · rw [if_pos c] at k
      refine v_load rfl rfl ⟨rfl, Nat.le_of_ble_eq_true rfl⟩ ?_
      refine v_load rfl rfl ⟨rfl, Nat.le_of_ble_eq_true rfl⟩ ?_
      refine v_callr rfl ⟨Nat.le_of_ble_eq_true rfl, Nat.le_of_ble_eq_true rfl, rfl, Nat.le_of_ble_eq_true rfl, rfl⟩ ?_
      refine R_isNode hS hi32 ?_
      rw [b2i_t (decide_eq_true ci)]
      refine v_ifeq rfl (fun h => absurd h (by decide)) (fun _ => ?_)
      refine v_load rfl rfl ⟨rfl, Nat.le_of_ble_eq_true rfl⟩ ?_
      refine v_load rfl rfl ⟨rfl, Nat.le_of_ble_eq_true rfl⟩ ?_
      refine v_callr rfl ⟨Nat.le_of_ble_eq_true rfl, Nat.le_of_ble_eq_true rfl, rfl, Nat.le_of_ble_eq_true rfl, rfl⟩ ?_
      refine R_hasValue hS hi ?_
      rw [b2i_t c]
      refine v_ifne rfl (fun _ => ?_) (fun h => absurd h (by decide))
      refine v_load rfl rfl ⟨rfl, Nat.le_of_ble_eq_true rfl⟩ ?_
      refine v_load rfl rfl ⟨rfl, Nat.le_of_ble_eq_true rfl⟩ ?_
      refine v_getp rfl rfl rfl ?_
      refine v_load rfl rfl ⟨rfl, Nat.le_of_ble_eq_true rfl⟩ ?_
      refine v_ald9 rfl rfl ⟨by omega, by show _ < (1600 : Int); omega⟩ ?_
      rw [g4]
      refine v_add rfl (by omega) ?_
      refine v_push rfl ?_
      refine v_sub rfl (by omega) ?_
      refine v_store rfl ⟨rfl, Nat.le_of_ble_eq_true rfl, Nat.le_of_ble_eq_true rfl, rfl⟩ rfl ?_
      exact R_val_loop (d := d + 6) M hi hS (fun M' ho => k M' (RS_127 hC ho) (fun b j hb => ho b j (by omega))) (nd (NT (toks s.1.1)) i).2.2.2.1.toNat _ M (by omega) (by omega) (fun b j _ => rfl) (fun y h1 h2 => by omega)
    · rw [if_neg c] at k
      refine v_load rfl rfl ⟨rfl, Nat.le_of_ble_eq_true rfl⟩ ?_
      refine v_load rfl rfl ⟨rfl, Nat.le_of_ble_eq_true rfl⟩ ?_
      refine v_callr rfl ⟨Nat.le_of_ble_eq_true rfl, Nat.le_of_ble_eq_true rfl, rfl, Nat.le_of_ble_eq_true rfl, rfl⟩ ?_
      refine R_isNode hS hi32 ?_
      rw [b2i_t (decide_eq_true ci)]
      refine v_ifeq rfl (fun h => absurd h (by decide)) (fun _ => ?_)
      refine v_load rfl rfl ⟨rfl, Nat.le_of_ble_eq_true rfl⟩ ?_
      refine v_load rfl rfl ⟨rfl, Nat.le_of_ble_eq_true rfl⟩ ?_
      refine v_callr rfl ⟨Nat.le_of_ble_eq_true rfl, Nat.le_of_ble_eq_true rfl, rfl, Nat.le_of_ble_eq_true rfl, rfl⟩ ?_
      refine R_hasValue hS hi ?_
      rw [b2i_f c]
      refine v_ifne rfl (fun h => absurd h (by decide)) (fun _ => ?_)
      refine v_lcon rfl ?_
      refine v_ret rfl rfl ?_
      exact k M hC (fun b j _ => rfl)
  · rw [if_neg (by rw [nd_out (by omega)]; decide)] at k
    refine v_load rfl rfl ⟨rfl, Nat.le_of_ble_eq_true rfl⟩ ?_
    refine v_load rfl rfl ⟨rfl, Nat.le_of_ble_eq_true rfl⟩ ?_
    refine v_callr rfl ⟨Nat.le_of_ble_eq_true rfl, Nat.le_of_ble_eq_true rfl, rfl, Nat.le_of_ble_eq_true rfl, rfl⟩ ?_
    refine R_isNode hS hi32 ?_
    rw [b2i_f (by simpa using ci)]
    refine v_ifeq rfl (fun _ => ?_) (fun h => absurd h (by decide))
    refine v_lcon rfl ?_
    refine v_ret rfl rfl ?_
    exact k M hC (fun b j _ => rfl)
end QK
