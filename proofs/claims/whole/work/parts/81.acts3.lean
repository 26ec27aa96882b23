/-! ACTS: load, undo, redo -/
section A3
variable {L d n : Nat} {M : zM} {Q : Option zV → zM → Prop} {s : zA}
noncomputable def loadS (s : zA) (m : Int) : zA × Int := if 0 ≤ m ∧ m ≤ (s.1.2.length : Int) then (newS (tpS s []) (s.1.2.take m.toNat) (paA s.2.1.1 s.1.1) [] 0 0, ((toks (s.1.2.take m.toNat)).length : Int)) else (s, -1)
theorem S_load {m : Int} (hC : CS s M) (hB : BS s n) (k : ∀ M', CS (loadS s m).1 M' → z_oR 1 76 M M' → Q (some (0, (loadS s m).2)) M') : v_call L (d + 102) 121 [(2, 1), (0, m)] M Q := by
  obtain ⟨h1, ⟨z4, h2⟩, -, h4, h5, h6, -⟩ := id hC
  have hl := hB.1
  have hbt := hB.2.2.2.1
  unfold loadS at k
  refine v_in ?_
  by_cases c : 0 ≤ m ∧ m ≤ (s.1.2.length : Int)
  · rw [if_pos c] at k
    have hlt := h2.2.1
    have hbe : z_by (s.1.2.take m.toNat) := z_by_take hbt
    have hle : (s.1.2.take m.toNat).length ≤ 300 := by rw [List.length_take]; omega
    refine v_load rfl rfl ⟨rfl, Nat.le_of_ble_eq_true rfl⟩ ?_
    refine v_iflt rfl (fun h => absurd h (by omega)) (fun _ => ?_)
    refine v_load rfl rfl ⟨rfl, Nat.le_of_ble_eq_true rfl⟩ ?_
    refine v_load rfl rfl ⟨rfl, Nat.le_of_ble_eq_true rfl⟩ ?_
    refine v_getp rfl rfl rfl ?_
    refine v_callr rfl ⟨Nat.le_of_ble_eq_true rfl, Nat.le_of_ble_eq_true rfl, rfl, Nat.le_of_ble_eq_true rfl, rfl⟩ ?_
    refine S_sizeT z_B4 h2 ?_
    refine v_ile rfl (fun _ => ?_) (fun h => absurd h (by omega))
    refine v_load rfl rfl ⟨rfl, Nat.le_of_ble_eq_true rfl⟩ ?_
    refine v_getp rfl rfl rfl ?_
    refine v_callr rfl ⟨Nat.le_of_ble_eq_true rfl, Nat.le_of_ble_eq_true rfl, rfl, Nat.le_of_ble_eq_true rfl, rfl⟩ ?_
    refine S_dClear (fun M1 d1 o1 => ?_)
    refine v_load rfl rfl ⟨rfl, Nat.le_of_ble_eq_true rfl⟩ ?_
    refine v_getp rfl rfl rfl ?_
    refine v_load rfl rfl ⟨rfl, Nat.le_of_ble_eq_true rfl⟩ ?_
    refine v_getp rfl rfl rfl ?_
    refine v_push rfl ?_
    refine v_load rfl rfl ⟨rfl, Nat.le_of_ble_eq_true rfl⟩ ?_
    refine v_callr rfl ⟨Nat.le_of_ble_eq_true rfl, Nat.le_of_ble_eq_true rfl, rfl, Nat.le_of_ble_eq_true rfl, rfl⟩ ?_
    refine S_dFrom d1 (Or.inr rfl) (BV_oR h2 o1 (by decide)) (by decide) c (fun M2 d2 o2 => ?_)
    rw [List.nil_append, sub_0] at d2
    have d2' := DRF_fit d2 hbe hle
    refine v_load rfl rfl ⟨rfl, Nat.le_of_ble_eq_true rfl⟩ ?_
    refine v_getp rfl rfl rfl ?_
    refine v_callr rfl ⟨Nat.le_of_ble_eq_true rfl, Nat.le_of_ble_eq_true rfl, rfl, Nat.le_of_ble_eq_true rfl, rfl⟩ ?_
    refine S_clear z_B4 (fun M3 v3 o3 => ?_)
    have o3' : z_oR 4 5 M2 M3 := fun b j hb => o3 b j (by omega) (by omega)
    refine v_load rfl rfl ⟨rfl, Nat.le_of_ble_eq_true rfl⟩ ?_
    refine v_getp rfl rfl rfl ?_
    refine v_load rfl rfl ⟨rfl, Nat.le_of_ble_eq_true rfl⟩ ?_
    refine v_getp rfl rfl rfl ?_
    refine v_callr rfl ⟨Nat.le_of_ble_eq_true rfl, Nat.le_of_ble_eq_true rfl, rfl, Nat.le_of_ble_eq_true rfl, rfl⟩ ?_
    refine S_become z_B2 z_B6 (by decide) (BV_oR d2' o3' (by decide)) hbe (fun M4 v4 o4 => ?_)
    have o4' : z_oR 2 3 M3 M4 := fun b j hb => o4 b j (by omega) (by omega)
    have o14 : z_oR 2 7 M M4 := z_oR_tr (z_oR_w o1 (by decide) (by decide)) (z_oR_tr (z_oR_w o2 (by decide) (by decide)) (z_oR_tr (z_oR_w o3' (by decide) (by decide)) (z_oR_w o4' (by decide) (by decide))))
    refine v_load rfl rfl ⟨rfl, Nat.le_of_ble_eq_true rfl⟩ ?_
    refine v_getp rfl rfl rfl ?_
    refine v_load rfl rfl ⟨rfl, Nat.le_of_ble_eq_true rfl⟩ ?_
    refine v_getp rfl rfl rfl ?_
    refine v_callr rfl ⟨Nat.le_of_ble_eq_true rfl, Nat.le_of_ble_eq_true rfl, rfl, Nat.le_of_ble_eq_true rfl, rfl⟩ ?_
    refine S_hadd (HA_oR h4 o14 (by decide)) v4 hbe (fun M5 a5 o5 => ?_)
    have o15 : z_oR 2 35 M M5 := z_oR_tr (z_oR_w o14 (by decide) (by decide)) (z_oR_w o5 (by decide) (by decide))
    refine v_load rfl rfl ⟨rfl, Nat.le_of_ble_eq_true rfl⟩ ?_
    refine v_callr rfl ⟨Nat.le_of_ble_eq_true rfl, Nat.le_of_ble_eq_true rfl, rfl, Nat.le_of_ble_eq_true rfl, rfl⟩ ?_
    refine S_renew (d := d) (BV_oR v4 o5 (by decide)) hl (RT_oR h5 o15 (by decide)) (TN_oR h6 o15 (by decide)) (fun M6 r6 n6 k6 o6 => ?_)
    have ou : z_oR 1 1 M6 (z_upd (z_upd M6 1 9 0) 1 10 0) := z_oR_tr (z_oR_u (by decide)) (z_oR_u (by decide))
    refine v_load rfl rfl ⟨rfl, Nat.le_of_ble_eq_true rfl⟩ ?_
    refine v_lcon rfl ?_
    refine v_putl rfl rfl rfl ?_
    refine v_load rfl rfl ⟨rfl, Nat.le_of_ble_eq_true rfl⟩ ?_
    refine v_lcon rfl ?_
    refine v_putl rfl rfl rfl ?_
    refine v_load rfl rfl ⟨rfl, Nat.le_of_ble_eq_true rfl⟩ ?_
    refine v_getp rfl rfl rfl ?_
    refine v_callr rfl ⟨Nat.le_of_ble_eq_true rfl, Nat.le_of_ble_eq_true rfl, rfl, Nat.le_of_ble_eq_true rfl, rfl⟩ ?_
    refine S_tkSize (RT_oR r6 ou (by decide)) ?_
    refine v_ret rfl rfl ?_
    refine k _ ⟨BV_oR (BV_oR (BV_oR v4 o5 (by decide)) o6 (by decide)) ou (by decide), ⟨0, BV_oR (BV_oR (BV_oR (BV_oR v3 o4' (by decide)) o5 (by decide)) o6 (by decide)) ou (by decide)⟩, ⟨_, _, BV_oR (BV_oR (BV_oR (BV_oR (BV_oR d2' o3' (by decide)) o4' (by decide)) o5 (by decide)) o6 (by decide)) ou (by decide)⟩, HA_oR (HA_oR a5 o6 (by decide)) ou (by decide), RT_oR r6 ou (by decide), TN_oR n6 ou (by decide), KPC_oR k6 ou (by decide), by rw [u_n2 (by decide), u_eq]; rfl, u_eq⟩ (z_oR_tr (z_oR_w o15 (by decide) (by decide)) (z_oR_tr (z_oR_w o6 (by decide) (by decide)) (z_oR_w ou (by decide) (by decide))))
  · rw [if_neg c] at k
    refine v_load rfl rfl ⟨rfl, Nat.le_of_ble_eq_true rfl⟩ ?_
    refine v_iflt rfl (fun c1 => ?_) (fun c1 => ?_)
    · refine v_push rfl ?_
      refine v_ret rfl rfl ?_
      first | exact k M hC z_oR_rf | (exfalso; omega)
    · refine v_load rfl rfl ⟨rfl, Nat.le_of_ble_eq_true rfl⟩ ?_
      refine v_load rfl rfl ⟨rfl, Nat.le_of_ble_eq_true rfl⟩ ?_
      refine v_getp rfl rfl rfl ?_
      refine v_callr rfl ⟨Nat.le_of_ble_eq_true rfl, Nat.le_of_ble_eq_true rfl, rfl, Nat.le_of_ble_eq_true rfl, rfl⟩ ?_
      refine S_sizeT z_B4 h2 ?_
      refine v_ile rfl (fun c2 => ?_) (fun c2 => ?_)
      · first | exact k M hC z_oR_rf | (exfalso; omega)
      · refine v_push rfl ?_
        refine v_ret rfl rfl ?_
        first | exact k M hC z_oR_rf | (exfalso; omega)
/-- the reference reads a text that is there: nothing is kept -/
theorem anewK {t t' : List Int} {M0 M1 M2 : zM} (hO : RO (toks t) (NT (toks t)) M0) (e : ∀ so, 0 ≤ so → so < 18 → M1 113 so = M0 113 so) (k2 : KPR oNo (fun _ => false) (fun so => M1 113 so) (toks t').length (NT (toks t')).length M2) : KPR oNo (fun _ => false) (fun so => mnS (NT (toks t)) so (NT (toks t)).length) (toks t').length (NT (toks t')).length M2 := by
  obtain ⟨a1, a2, a3, a4, a5⟩ := k2
  refine ⟨a1, a2, fun so s0 s1' => ?_, a4, a5⟩
  rw [a3 so s0 s1']
  show M1 113 so = _
  rw [e so s0 s1']
  exact hO.2.2.2.2 so s0 s1'
theorem upd1 {M M' : zM} {i x : Int} (h : z_upd M 77 i x = M') : ∀ b j, (b = 77 → j ≠ i) → M' b j = M b j := fun b j hb => by
  rw [← h]
  by_cases e : b = 77
  · exact u_n2 (hb e)
  · exact u_n1 e
theorem upd2 {M M' : zM} {i i' x x' : Int} (h : z_upd (z_upd M 77 i x) 77 i' x' = M') : ∀ b j, (b = 77 → j ≠ i' ∧ j ≠ i) → M' b j = M b j := fun b j hb => by
  rw [upd1 h b j (fun e => (hb e).1), upd1 rfl b j (fun e => (hb e).2)]
theorem anewF {M M1 M' : zM} (o1 : oRd M M1) (o2 : oKp M1 M') : (∀ b j, b ≠ 77 → ¬ (81 ≤ b ∧ b ≤ 112) → b ≠ 115 → b ≠ 114 → b ≠ 123 → b ≠ 124 → M' b j = M b j) ∧ (∀ j, j ≠ 10 → j ≠ 19 → ¬ (27 ≤ j ∧ j ≤ 31) → j ≠ 44 → j ≠ 49 → j ≠ 61 → j ≠ 62 → M' 77 j = M 77 j) := ⟨fun b j b1 b2 b3 b4 b5 b6 => by rw [o2 b j b4 b5 b6 (fun e => absurd e b1), o1.1 b j b1 b2 b3], fun j j1 j2 j3 j4 j5 j6 j7 => by rw [o2 77 j (by decide) (by decide) (by decide) (fun _ => ⟨j6, j7⟩), o1.2 j j1 j2 j3 j4 j5]⟩
theorem R_load_loop {m : Int} (M0 : zM) (hP : RTp s.1.2 M0) (hm : 0 ≤ m ∧ m ≤ (s.1.2.length : Int)) (k : ∀ M', (∀ i : Nat, (i : Int) < m → M' 79 (i : Int) = s.1.2.getD i 0) → (∀ b j, b ≠ 79 → M' b j = M0 b j) → v_wp L d 239 47 [(2, 77), (0, m), (0, m)] [] M' Q) : ∀ (n j : Nat) (Mc : zM), (j : Int) + (n : Int) = m → (∀ i : Nat, i < j → Mc 79 (i : Int) = s.1.2.getD i 0) → (∀ b j, b ≠ 79 → Mc b j = M0 b j) → v_wp L d 239 24 [(2, 77), (0, m), (0, (j : Int))] [] Mc Q := by
  intro n
  have hl := hP.2.1
  induction n with
  | zero =>
    intro j Mc hj hF ho
    have ej : (j : Int) = m := by omega
    rw [ej]
    refine v_load rfl rfl ⟨rfl, Nat.le_of_ble_eq_true rfl⟩ ?_
    refine v_load rfl rfl ⟨rfl, Nat.le_of_ble_eq_true rfl⟩ ?_
    refine v_ige rfl (fun _ => ?_) (fun h => absurd h (by omega))
    exact k Mc (fun i hi => hF i (by omega)) ho
  | succ n ih =>
    intro j Mc hj hF ho
    have q : Mc 78 (j : Int) = s.1.2.getD j 0 := (ho 78 _ (by decide)).trans (hP.2.2 j (by omega))
    refine v_load rfl rfl ⟨rfl, Nat.le_of_ble_eq_true rfl⟩ ?_
    refine v_load rfl rfl ⟨rfl, Nat.le_of_ble_eq_true rfl⟩ ?_
    refine v_ige rfl (fun h => absurd h (by omega)) (fun _ => ?_)
    refine v_load rfl rfl ⟨rfl, Nat.le_of_ble_eq_true rfl⟩ ?_
    refine v_getp rfl rfl rfl ?_
    refine v_load rfl rfl ⟨rfl, Nat.le_of_ble_eq_true rfl⟩ ?_
    refine v_load rfl rfl ⟨rfl, Nat.le_of_ble_eq_true rfl⟩ ?_
    refine v_getp rfl rfl rfl ?_
    refine v_load rfl rfl ⟨rfl, Nat.le_of_ble_eq_true rfl⟩ ?_
    refine v_ald9 rfl rfl ⟨by omega, by show _ < (300 : Int); omega⟩ ?_
    rw [q]
    refine v_ast9 rfl rfl (by decide) ⟨by omega, by show _ < (300 : Int); omega⟩ ?_
    refine v_iinc rfl rfl rfl (by omega) rfl ?_
    refine v_goto rfl ?_
    refine ih (j + 1) _ (by omega) (fun i hi => ?_) (fun b i hb => by rw [u_n1 hb]; exact ho b i hb)
    by_cases e : i = j
    · subst e; rw [u_eq]
    · rw [u_n2 (by omega)]; exact hF i (by omega)
theorem R_load {m : Int} (hC : RS s M) (hB : BS s n) (k : ∀ M', RS (loadS s m).1 M' → z_oR 77 127 M M' → Q (some (0, (loadS s m).2)) M') : v_call L (d + 11) 239 [(2, 77), (0, m)] M Q := by
  obtain ⟨hS, hP, hHp, -, -, -, -⟩ := id hC
  have h3 := hP.1
  have hlt := hB.2.1
  unfold loadS at k
  refine v_in ?_
  by_cases c : 0 ≤ m ∧ m ≤ (s.1.2.length : Int)
  · rw [if_pos c] at k
    refine v_load rfl rfl ⟨rfl, Nat.le_of_ble_eq_true rfl⟩ ?_
    refine v_iflt rfl (fun h => absurd h (by omega)) (fun _ => ?_)
    refine v_load rfl rfl ⟨rfl, Nat.le_of_ble_eq_true rfl⟩ ?_
    refine v_load rfl rfl ⟨rfl, Nat.le_of_ble_eq_true rfl⟩ ?_
    refine v_getx rfl rfl (h3) ?_
    refine v_ile rfl (fun _ => ?_) (fun h => absurd h (by omega))
    refine v_load rfl rfl ⟨rfl, Nat.le_of_ble_eq_true rfl⟩ ?_
    refine v_callr rfl ⟨Nat.le_of_ble_eq_true rfl, Nat.le_of_ble_eq_true rfl, rfl, Nat.le_of_ble_eq_true rfl, rfl⟩ ?_
    refine R_act hHp hS.1 (fun M1 a1 a2 o1 => ?_)
    have s1 : RSt s.1.1 M1 := RSt_fr hS (fun j hj => o1 77 j (by decide) (by omega)) (fun c j hc => o1 c j (by omega) (by omega))
    refine v_load rfl rfl ⟨rfl, Nat.le_of_ble_eq_true rfl⟩ ?_
    refine v_callr rfl ⟨Nat.le_of_ble_eq_true rfl, Nat.le_of_ble_eq_true rfl, rfl, Nat.le_of_ble_eq_true rfl, rfl⟩ ?_
    refine R_remembers s1 (fun M2 c2 o2 => ?_)
    refine v_push rfl ?_
    refine v_store rfl ⟨rfl, Nat.le_of_ble_eq_true rfl, Nat.le_of_ble_eq_true rfl, rfl⟩ rfl ?_
    have p2 : RTp s.1.2 M2 := RTp_fr hP (by rw [o2 77 3 (by decide) (by decide) (by decide), o1 77 3 (by decide) (by decide)]) (fun j => by rw [o2 78 j (by decide) (by decide) (by omega), o1 78 j (by decide) (by omega)])
    refine R_load_loop (s := s) M2 p2 c (fun M3 a3 o3 => ?_) m.toNat 0 M2 (by omega) (fun i hi => absurd hi (Nat.not_lt_zero _)) (fun _ _ _ => rfl)
    generalize hM4 : z_upd (z_upd (z_upd (z_upd M3 77 4 m) 77 3 0) 77 67 0) 77 68 0 = M4
    have o4 : ∀ b j, (b = 77 → j ≠ 4 ∧ j ≠ 3 ∧ j ≠ 67 ∧ j ≠ 68) → M4 b j = M3 b j := fun b j h => by
      rw [← hM4]
      by_cases e : b = 77
      · obtain ⟨e1, e2, e3, e4⟩ := h e
        rw [u_n2 e4, u_n2 e3, u_n2 e2, u_n2 e1]
      · rw [u_n1 e, u_n1 e, u_n1 e, u_n1 e]
    have x4 : RX (s.1.2.take m.toNat) M4 := by
      have ll : (s.1.2.take m.toNat).length = m.toNat := by rw [List.length_take]; omega
      refine ⟨by rw [← hM4, u_n2 (by decide), u_n2 (by decide), u_n2 (by decide), u_eq, ll]; omega, by omega, fun i hi => ?_⟩
      rw [o4 79 _ (by omega), a3 i (by omega), List.getD_eq_getElem?_getD, List.getD_eq_getElem?_getD, List.getElem?_take, if_pos (by omega)]
    have r4 : RO (toks s.1.1) (NT (toks s.1.1)) M4 := RO_fr c2 (fun j hj => by rw [o4 77 j (by omega), o3 77 j (by decide)]) (fun b j hb => by rw [o4 b j (by omega), o3 b j (by omega)])
    refine v_load rfl rfl ⟨rfl, Nat.le_of_ble_eq_true rfl⟩ ?_
    refine v_load rfl rfl ⟨rfl, Nat.le_of_ble_eq_true rfl⟩ ?_
    refine v_puti rfl rfl rfl ?_
    refine v_load rfl rfl ⟨rfl, Nat.le_of_ble_eq_true rfl⟩ ?_
    refine v_push rfl ?_
    refine v_puti rfl rfl rfl ?_
    refine v_load rfl rfl ⟨rfl, Nat.le_of_ble_eq_true rfl⟩ ?_
    refine v_push rfl ?_
    refine v_puti rfl rfl rfl ?_
    refine v_load rfl rfl ⟨rfl, Nat.le_of_ble_eq_true rfl⟩ ?_
    refine v_push rfl ?_
    refine v_puti rfl rfl rfl ?_
    rw [hM4]
    refine v_load rfl rfl ⟨rfl, Nat.le_of_ble_eq_true rfl⟩ ?_
    refine v_callr rfl ⟨Nat.le_of_ble_eq_true rfl, Nat.le_of_ble_eq_true rfl, rfl, Nat.le_of_ble_eq_true rfl, rfl⟩ ?_
    refine R_reads x4 (fun M5 s5 o5 => ?_)
    obtain ⟨h44, hlN⟩ := TM_len s5.2.2.1
    refine v_load rfl rfl ⟨rfl, Nat.le_of_ble_eq_true rfl⟩ ?_
    refine v_callr rfl ⟨Nat.le_of_ble_eq_true rfl, Nat.le_of_ble_eq_true rfl, rfl, Nat.le_of_ble_eq_true rfl, rfl⟩ ?_
    refine R_forgets s5.2.1.1 s5.2.1.2.1 h44 hlN (fun M6 k6 o6' => ?_)
    refine v_load rfl rfl ⟨rfl, Nat.le_of_ble_eq_true rfl⟩ ?_
    refine v_getx rfl rfl ((RSt_oKp s5 o6').2.1.1) ?_
    refine v_ret rfl rfl ?_
    have s6 := RSt_oKp s5 o6'
    have k6' := anewK r4 (fun so _ _ => o5.1 113 so (by decide) (by decide) (by decide)) k6
    obtain ⟨o6, o6'⟩ := anewF o5 o6'
    · have t65 : ∀ j, j = 65 ∨ j = 66 → M6 77 j = M1 77 j := fun j hj => by rw [o6' j (by omega) (by omega) (by omega) (by omega) (by omega) (by omega) (by omega), o4 77 j (by omega), o3 77 j (by decide), o2 77 j (by decide) (by decide) (by omega)]
      have t125 : ∀ b j, b = 125 ∨ b = 126 → M6 b j = M1 b j := fun b j hb => by rw [o6 b j (by omega) (by omega) (by omega) (by omega) (by omega) (by omega), o4 b j (by omega), o3 b j (by omega), o2 b j (by omega) (by omega) (by omega)]
      refine k M6 ⟨s6, ⟨?_, Nat.zero_le _, fun i hi => absurd hi (Nat.not_lt_zero _)⟩, HRp_fr a1 (t65 65 (by decide)) (fun j => t125 125 j (by decide)), HRf_fr a2 (t65 66 (by decide)) (fun j => t125 126 j (by decide)), k6', ?_, ?_⟩ (fun b j hb => ?_)
      · rw [o6' 3 (by decide) (by decide) (by decide) (by decide) (by decide) (by decide) (by decide), ← hM4, u_n2 (by decide), u_n2 (by decide), u_eq]; rfl
      · rw [o6' 67 (by decide) (by decide) (by decide) (by decide) (by decide) (by decide) (by decide), ← hM4, u_n2 (by decide), u_eq]; rfl
      · rw [o6' 68 (by decide) (by decide) (by decide) (by decide) (by decide) (by decide) (by decide), ← hM4, u_eq]; rfl
      · rw [o6 b j (by omega) (by omega) (by omega) (by omega) (by omega) (by omega), o4 b j (by omega), o3 b j (by omega), o2 b j (by omega) (by omega) (by omega), o1 b j (by omega) (by omega)]
  · rw [if_neg c] at k
    refine v_load rfl rfl ⟨rfl, Nat.le_of_ble_eq_true rfl⟩ ?_
    refine v_iflt rfl (fun c3 => ?_) (fun c3 => ?_)
    · refine v_push rfl ?_
      refine v_ret rfl rfl ?_
      first | exact k M hC z_oR_rf | (exfalso; omega)
    · refine v_load rfl rfl ⟨rfl, Nat.le_of_ble_eq_true rfl⟩ ?_
      refine v_load rfl rfl ⟨rfl, Nat.le_of_ble_eq_true rfl⟩ ?_
      refine v_getx rfl rfl h3 ?_
      refine v_ile rfl (fun c4 => ?_) (fun c4 => ?_)
      · first | exact k M hC z_oR_rf | (exfalso; omega)
      · refine v_push rfl ?_
        refine v_ret rfl rfl ?_
        first | exact k M hC z_oR_rf | (exfalso; omega)
/-- undo -/
noncomputable def undoS (s : zA) : zA × Int := if s.2.1.1.length = 0 then (s, -1) else (newS s (s.2.1.1.getD (s.2.1.1.length - 1) []) (s.2.1.1.take (s.2.1.1.length - 1)) (s.1.1 :: s.2.1.2) s.2.2.2.1 s.2.2.2.2, (s.2.1.1.length : Int) - 1)
noncomputable def redoS (s : zA) : zA × Int := if s.2.1.2.length = 0 then (s, -1) else (newS s (s.2.1.2.getD 0 []) (s.2.1.1 ++ [s.1.1]) (s.2.1.2.drop 1) s.2.2.2.1 s.2.2.2.2, (s.2.1.2.length : Int) - 1)
theorem HV_row {M : zM} {H : List (List Int)} {now last : Int} (h : HV M H now last) : z_isB (M 9 now) ∧ 10 ≤ M 9 now ∧ BV M (M 9 now) (H.getD now.toNat []) 0 ∧ z_by (H.getD now.toNat []) := by
  obtain ⟨-, -, h3, h4, h5, h6, h7, h8, h9, h10⟩ := h
  have e : ((now.toNat : Nat) : Int) = now := by omega
  have q7 := h7 now.toNat (by omega)
  have q9 := h9 now.toNat (by omega)
  rw [e] at q7 q9
  exact ⟨z_H_B q7, q7.1, q9, h10 _ (mem_getD (by omega))⟩
theorem HV_oo {M M' : zM} {H : List (List Int)} {now last : Int} (h : HV M H now last) (ho : z_o2 2 M M') : HV M' H now last := HV_o2 h ho (Or.inl rfl)
theorem S_undo (hC : CS s M) (hB : BS s n) (k : ∀ M', CS (undoS s).1 M' → z_oR 1 76 M M' → Q (some (0, (undoS s).2)) M') : v_call L (d + 102) 130 [(2, 1)] M Q := by
  obtain ⟨h1, ⟨z4, h2⟩, ⟨l6, z6, h3⟩, ⟨H, hH, a1, a2, a3⟩, h5, h6, -, h8, h9⟩ := id hC
  have hl := hB.1
  unfold undoS at k
  refine v_in ?_
  by_cases c : s.2.1.1.length = 0
  · rw [if_pos c] at k
    refine v_load rfl rfl ⟨rfl, Nat.le_of_ble_eq_true rfl⟩ ?_
    refine v_getp rfl rfl rfl ?_
    refine v_callr rfl ⟨Nat.le_of_ble_eq_true rfl, Nat.le_of_ble_eq_true rfl, rfl, Nat.le_of_ble_eq_true rfl, rfl⟩ ?_
    refine S_behind hH ?_
    refine v_ifne rfl (fun h => absurd h (by omega)) (fun _ => ?_)
    refine v_push rfl ?_
    refine v_ret rfl rfl ?_
    exact k M hC z_oR_rf
  · rw [if_neg c] at k
    refine v_load rfl rfl ⟨rfl, Nat.le_of_ble_eq_true rfl⟩ ?_
    refine v_getp rfl rfl rfl ?_
    refine v_callr rfl ⟨Nat.le_of_ble_eq_true rfl, Nat.le_of_ble_eq_true rfl, rfl, Nat.le_of_ble_eq_true rfl, rfl⟩ ?_
    refine S_behind hH ?_
    refine v_ifne rfl (fun _ => ?_) (fun h => absurd h (by omega))
    refine v_load rfl rfl ⟨rfl, Nat.le_of_ble_eq_true rfl⟩ ?_
    refine v_getp rfl rfl rfl ?_
    refine v_push rfl ?_
    refine v_callr rfl ⟨Nat.le_of_ble_eq_true rfl, Nat.le_of_ble_eq_true rfl, rfl, Nat.le_of_ble_eq_true rfl, rfl⟩ ?_
    refine S_hstep hH (Or.inr rfl) ⟨by omega, by omega⟩ (fun M1 hv1 o1 => ?_)
    obtain ⟨r1, r2, r3, r4⟩ := HV_row hv1
    rw [show ((s.2.1.1.length : Int) + -1).toNat = s.2.1.1.length - 1 by omega, a1 _ (by omega)] at r3 r4
    refine v_load rfl rfl ⟨rfl, Nat.le_of_ble_eq_true rfl⟩ ?_
    refine v_getp rfl rfl rfl ?_
    refine v_load rfl rfl ⟨rfl, Nat.le_of_ble_eq_true rfl⟩ ?_
    refine v_getp rfl rfl rfl ?_
    refine v_callr rfl ⟨Nat.le_of_ble_eq_true rfl, Nat.le_of_ble_eq_true rfl, rfl, Nat.le_of_ble_eq_true rfl, rfl⟩ ?_
    refine S_current hv1 ?_
    refine v_callr rfl ⟨Nat.le_of_ble_eq_true rfl, Nat.le_of_ble_eq_true rfl, rfl, Nat.le_of_ble_eq_true rfl, rfl⟩ ?_
    refine S_become z_B2 r1 (by omega) r3 r4 (fun M2 v2 o2 => ?_)
    have hv2 := HV_oo hv1 o2
    have o2' : z_oR 2 3 M1 M2 := fun b j hb => o2 b j (by omega) (by omega)
    have o12 : z_oR 2 8 M M2 := z_oR_tr (z_oR_w o1 (by decide) (by decide)) (z_oR_w o2' (by decide) (by decide))
    refine v_load rfl rfl ⟨rfl, Nat.le_of_ble_eq_true rfl⟩ ?_
    refine v_callr rfl ⟨Nat.le_of_ble_eq_true rfl, Nat.le_of_ble_eq_true rfl, rfl, Nat.le_of_ble_eq_true rfl, rfl⟩ ?_
    refine S_renew (d := d) v2 hl (RT_oR h5 o12 (by decide)) (TN_oR h6 o12 (by decide)) (fun M3 r3 n3 k3 o3 => ?_)
    refine v_load rfl rfl ⟨rfl, Nat.le_of_ble_eq_true rfl⟩ ?_
    refine v_getp rfl rfl rfl ?_
    refine v_callr rfl ⟨Nat.le_of_ble_eq_true rfl, Nat.le_of_ble_eq_true rfl, rfl, Nat.le_of_ble_eq_true rfl, rfl⟩ ?_
    refine S_behind (HV_oR hv2 o3 (by decide)) ?_
    refine v_ret rfl rfl ?_
    have ll : (s.2.1.1.take (s.2.1.1.length - 1)).length = s.2.1.1.length - 1 := by rw [List.length_take]; omega
    refine qeq (k M3 ⟨BV_oR v2 o3 (by decide), ⟨z4, BV_oR (BV_oR (BV_oR h2 o1 (by decide)) o2' (by decide)) o3 (by decide)⟩, ⟨l6, z6, BV_oR (BV_oR (BV_oR h3 o1 (by decide)) o2' (by decide)) o3 (by decide)⟩, ⟨H, ?_, fun i hi => ?_, ?_, fun i hi => ?_⟩, r3, n3, k3, ?_, ?_⟩ (z_oR_tr (z_oR_w o12 (by decide) (by decide)) (z_oR_w o3 (by decide) (by decide)))) (by omega)
    · show HV M3 H ((s.2.1.1.take (s.2.1.1.length - 1)).length : Int) (((s.2.1.1.take (s.2.1.1.length - 1)).length + (s.1.1 :: s.2.1.2).length : Nat) : Int)
      have := HV_oR hv2 o3 (by decide)
      rw [ll, List.length_cons, show ((s.2.1.1.length - 1 : Nat) : Int) = (s.2.1.1.length : Int) + -1 by omega, show ((s.2.1.1.length - 1 + (s.2.1.2.length + 1) : Nat) : Int) = ((s.2.1.1.length + s.2.1.2.length : Nat) : Int) by omega]
      exact this
    · have hi' : i < s.2.1.1.length - 1 := by rw [← ll]; exact hi
      rw [a1 i (by omega)]
      show _ = (s.2.1.1.take (s.2.1.1.length - 1)).getD i []
      rw [List.getD_eq_getElem?_getD, List.getD_eq_getElem?_getD, List.getElem?_take, if_pos hi']
    · show H.getD (s.2.1.1.take (s.2.1.1.length - 1)).length [] = _
      rw [ll]
      exact a1 _ (by omega)
    · show H.getD ((s.2.1.1.take (s.2.1.1.length - 1)).length + 1 + i) [] = (s.1.1 :: s.2.1.2).getD i []
      have hi' : i < s.2.1.2.length + 1 := hi
      rw [ll]
      cases i with
      | zero => rw [show s.2.1.1.length - 1 + 1 + 0 = s.2.1.1.length by omega]; exact a2
      | succ i => rw [show s.2.1.1.length - 1 + 1 + (i + 1) = s.2.1.1.length + 1 + i by omega]; exact a3 i (by omega)
    · rw [o3 1 9 (by decide), o12 1 9 (by decide)]; exact h8
    · rw [o3 1 10 (by decide), o12 1 10 (by decide)]; exact h9
theorem S_redo (hC : CS s M) (hB : BS s n) (k : ∀ M', CS (redoS s).1 M' → z_oR 1 76 M M' → Q (some (0, (redoS s).2)) M') : v_call L (d + 102) 131 [(2, 1)] M Q := by
  obtain ⟨h1, ⟨z4, h2⟩, ⟨l6, z6, h3⟩, ⟨H, hH, a1, a2, a3⟩, h5, h6, -, h8, h9⟩ := id hC
  have hl := hB.1
  unfold redoS at k
  refine v_in ?_
  by_cases c : s.2.1.2.length = 0
  · rw [if_pos c] at k
    refine v_load rfl rfl ⟨rfl, Nat.le_of_ble_eq_true rfl⟩ ?_
    refine v_getp rfl rfl rfl ?_
    refine v_callr rfl ⟨Nat.le_of_ble_eq_true rfl, Nat.le_of_ble_eq_true rfl, rfl, Nat.le_of_ble_eq_true rfl, rfl⟩ ?_
    refine S_ahead hH ?_
    refine v_ifne rfl (fun h => absurd h (by omega)) (fun _ => ?_)
    refine v_push rfl ?_
    refine v_ret rfl rfl ?_
    exact k M hC z_oR_rf
  · rw [if_neg c] at k
    refine v_load rfl rfl ⟨rfl, Nat.le_of_ble_eq_true rfl⟩ ?_
    refine v_getp rfl rfl rfl ?_
    refine v_callr rfl ⟨Nat.le_of_ble_eq_true rfl, Nat.le_of_ble_eq_true rfl, rfl, Nat.le_of_ble_eq_true rfl, rfl⟩ ?_
    refine S_ahead hH ?_
    refine v_ifne rfl (fun _ => ?_) (fun h => absurd h (by omega))
    refine v_load rfl rfl ⟨rfl, Nat.le_of_ble_eq_true rfl⟩ ?_
    refine v_getp rfl rfl rfl ?_
    refine v_push rfl ?_
    refine v_callr rfl ⟨Nat.le_of_ble_eq_true rfl, Nat.le_of_ble_eq_true rfl, rfl, Nat.le_of_ble_eq_true rfl, rfl⟩ ?_
    refine S_hstep hH (Or.inl rfl) ⟨by omega, by omega⟩ (fun M1 hv1 o1 => ?_)
    obtain ⟨r1, r2, r3, r4⟩ := HV_row hv1
    rw [show ((s.2.1.1.length : Int) + 1).toNat = s.2.1.1.length + 1 + 0 by omega, a3 0 (by omega)] at r3 r4
    refine v_load rfl rfl ⟨rfl, Nat.le_of_ble_eq_true rfl⟩ ?_
    refine v_getp rfl rfl rfl ?_
    refine v_load rfl rfl ⟨rfl, Nat.le_of_ble_eq_true rfl⟩ ?_
    refine v_getp rfl rfl rfl ?_
    refine v_callr rfl ⟨Nat.le_of_ble_eq_true rfl, Nat.le_of_ble_eq_true rfl, rfl, Nat.le_of_ble_eq_true rfl, rfl⟩ ?_
    refine S_current hv1 ?_
    refine v_callr rfl ⟨Nat.le_of_ble_eq_true rfl, Nat.le_of_ble_eq_true rfl, rfl, Nat.le_of_ble_eq_true rfl, rfl⟩ ?_
    refine S_become z_B2 r1 (by omega) r3 r4 (fun M2 v2 o2 => ?_)
    have hv2 := HV_oo hv1 o2
    have o2' : z_oR 2 3 M1 M2 := fun b j hb => o2 b j (by omega) (by omega)
    have o12 : z_oR 2 8 M M2 := z_oR_tr (z_oR_w o1 (by decide) (by decide)) (z_oR_w o2' (by decide) (by decide))
    refine v_load rfl rfl ⟨rfl, Nat.le_of_ble_eq_true rfl⟩ ?_
    refine v_callr rfl ⟨Nat.le_of_ble_eq_true rfl, Nat.le_of_ble_eq_true rfl, rfl, Nat.le_of_ble_eq_true rfl, rfl⟩ ?_
    refine S_renew (d := d) v2 hl (RT_oR h5 o12 (by decide)) (TN_oR h6 o12 (by decide)) (fun M3 r3 n3 k3 o3 => ?_)
    refine v_load rfl rfl ⟨rfl, Nat.le_of_ble_eq_true rfl⟩ ?_
    refine v_getp rfl rfl rfl ?_
    refine v_callr rfl ⟨Nat.le_of_ble_eq_true rfl, Nat.le_of_ble_eq_true rfl, rfl, Nat.le_of_ble_eq_true rfl, rfl⟩ ?_
    refine S_ahead (HV_oR hv2 o3 (by decide)) ?_
    refine v_ret rfl rfl ?_
    have ll : (s.2.1.1 ++ [s.1.1]).length = s.2.1.1.length + 1 := by simp
    have lf : (s.2.1.2.drop 1).length = s.2.1.2.length - 1 := by simp
    refine qeq (k M3 ⟨BV_oR v2 o3 (by decide), ⟨z4, BV_oR (BV_oR (BV_oR h2 o1 (by decide)) o2' (by decide)) o3 (by decide)⟩, ⟨l6, z6, BV_oR (BV_oR (BV_oR h3 o1 (by decide)) o2' (by decide)) o3 (by decide)⟩, ⟨H, ?_, fun i hi => ?_, ?_, fun i hi => ?_⟩, r3, n3, k3, ?_, ?_⟩ (z_oR_tr (z_oR_w o12 (by decide) (by decide)) (z_oR_w o3 (by decide) (by decide)))) (by omega)
    · show HV M3 H ((s.2.1.1 ++ [s.1.1]).length : Int) (((s.2.1.1 ++ [s.1.1]).length + (s.2.1.2.drop 1).length : Nat) : Int)
      have := HV_oR hv2 o3 (by decide)
      rw [ll, lf, show ((s.2.1.1.length + 1 : Nat) : Int) = (s.2.1.1.length : Int) + 1 by omega, show ((s.2.1.1.length + 1 + (s.2.1.2.length - 1) : Nat) : Int) = ((s.2.1.1.length + s.2.1.2.length : Nat) : Int) by omega]
      exact this
    · have hi' : i < s.2.1.1.length + 1 := by rw [← ll]; exact hi
      show _ = (s.2.1.1 ++ [s.1.1]).getD i []
      by_cases ei : i < s.2.1.1.length
      · rw [a1 i ei, List.getD_eq_getElem?_getD, List.getD_eq_getElem?_getD, List.getElem?_append_left ei]
      · rw [show i = s.2.1.1.length by omega, a2, List.getD_eq_getElem?_getD, List.getElem?_append_right (Nat.le_refl _), Nat.sub_self]; rfl
    · show H.getD (s.2.1.1 ++ [s.1.1]).length [] = _
      rw [ll]
      exact a3 0 (by omega)
    · show H.getD ((s.2.1.1 ++ [s.1.1]).length + 1 + i) [] = (s.2.1.2.drop 1).getD i []
      have hi' : i < s.2.1.2.length - 1 := by rw [← lf]; exact hi
      rw [ll, show s.2.1.1.length + 1 + 1 + i = s.2.1.1.length + 1 + (1 + i) by omega, a3 (1 + i) (by omega), List.getD_eq_getElem?_getD, List.getD_eq_getElem?_getD, List.getElem?_drop]
    · rw [o3 1 9 (by decide), o12 1 9 (by decide)]; exact h8
    · rw [o3 1 10 (by decide), o12 1 10 (by decide)]; exact h9
theorem R_undo (hC : RS s M) (hB : BS s n) (k : ∀ M', RS (undoS s).1 M' → z_oR 77 127 M M' → Q (some (0, (undoS s).2)) M') : v_call L (d + 11) 260 [(2, 77)] M Q := by
  obtain ⟨hS, hP, hHp, hHf, -, h67, h68⟩ := id hC
  obtain ⟨b1, b2, b3, b4, b5, b6, b7, -⟩ := id hB
  unfold undoS at k
  refine v_in ?_
  have p65 := hHp.1
  have p66 := hHf.1
  by_cases c : s.2.1.1.length = 0
  · rw [if_pos c] at k
    refine v_load rfl rfl ⟨rfl, Nat.le_of_ble_eq_true rfl⟩ ?_
    refine v_getx rfl rfl (p65) ?_
    refine v_ifne rfl (fun h => absurd h (by omega)) (fun _ => ?_)
    refine v_push rfl ?_
    refine v_ret rfl rfl ?_
    exact k M hC z_oR_rf
  · rw [if_neg c] at k
    have hmx := mem_getD (x := s.2.1.1) (k := s.2.1.1.length - 1) (by omega)
    have ll : (s.2.1.1.take (s.2.1.1.length - 1)).length = s.2.1.1.length - 1 := by rw [List.length_take]; omega
    refine v_load rfl rfl ⟨rfl, Nat.le_of_ble_eq_true rfl⟩ ?_
    refine v_getx rfl rfl (p65) ?_
    refine v_ifne rfl (fun _ => ?_) (fun h => absurd h (by omega))
    refine v_load rfl rfl ⟨rfl, Nat.le_of_ble_eq_true rfl⟩ ?_
    refine v_callr rfl ⟨Nat.le_of_ble_eq_true rfl, Nat.le_of_ble_eq_true rfl, rfl, Nat.le_of_ble_eq_true rfl, rfl⟩ ?_
    refine R_remembers hS (fun M1 c1 o1 => ?_)
    have q65 : M1 77 65 = (s.2.1.1.length : Int) := by rw [o1 77 65 (by decide) (by decide) (by decide)]; exact p65
    have q66 : M1 77 66 = (s.2.1.2.length : Int) := by rw [o1 77 66 (by decide) (by decide) (by decide)]; exact p66
    refine v_load rfl rfl ⟨rfl, Nat.le_of_ble_eq_true rfl⟩ ?_
    refine v_load rfl rfl ⟨rfl, Nat.le_of_ble_eq_true rfl⟩ ?_
    refine v_getp rfl rfl rfl ?_
    refine v_load rfl rfl ⟨rfl, Nat.le_of_ble_eq_true rfl⟩ ?_
    refine v_getx rfl rfl (q66) ?_
    refine v_callr rfl ⟨Nat.le_of_ble_eq_true rfl, Nat.le_of_ble_eq_true rfl, rfl, Nat.le_of_ble_eq_true rfl, rfl⟩ ?_
    refine R_wr126 (k := s.2.1.2.length) (by omega) (RX_fr hS.1 (o1 77 4 (by decide) (by decide) (by decide)) (fun j => o1 79 j (by decide) (by decide) (by omega))) (fun M2 w2 o2 => ?_)
    refine v_load rfl rfl ⟨rfl, Nat.le_of_ble_eq_true rfl⟩ ?_
    refine v_load rfl rfl ⟨rfl, Nat.le_of_ble_eq_true rfl⟩ ?_
    refine v_getx rfl rfl (show M2 77 66 = (s.2.1.2.length : Int) by rw [o2 77 66 (by omega)]; exact q66) ?_
    refine v_push rfl ?_
    refine v_add rfl (by omega) ?_
    refine v_puti rfl rfl rfl ?_
    refine v_load rfl rfl ⟨rfl, Nat.le_of_ble_eq_true rfl⟩ ?_
    refine v_load rfl rfl ⟨rfl, Nat.le_of_ble_eq_true rfl⟩ ?_
    refine v_getx rfl rfl (show _ = (s.2.1.1.length : Int) by rw [u_n2 (by decide), o2 77 65 (by omega)]; exact q65) ?_
    refine v_push rfl ?_
    refine v_sub rfl (by omega) ?_
    refine v_puti rfl rfl rfl ?_
    refine v_load rfl rfl ⟨rfl, Nat.le_of_ble_eq_true rfl⟩ ?_
    refine v_load rfl rfl ⟨rfl, Nat.le_of_ble_eq_true rfl⟩ ?_
    refine v_getp rfl rfl rfl ?_
    refine v_load rfl rfl ⟨rfl, Nat.le_of_ble_eq_true rfl⟩ ?_
    refine v_getx rfl rfl (show _ = (s.2.1.1.length : Int) - 1 by rw [u_eq]) ?_
    generalize hM3 : z_upd (z_upd M2 77 66 ((s.2.1.2.length : Int) + 1)) 77 65 ((s.2.1.1.length : Int) - 1) = M3
    have o3 : ∀ b j, (b = 77 → j ≠ 65 ∧ j ≠ 66) → M3 b j = M2 b j := upd2 hM3
    have s3 : SL 125 M3 (s.2.1.1.length - 1) (s.2.1.1.getD (s.2.1.1.length - 1) []) := SL_fr (hHp.2.1 _ (by omega)) (b6 _ hmx).1 (fun j _ _ => by rw [o3 125 j (by omega), o2 125 j (by omega), o1 125 j (by decide) (by decide) (by omega)])
    rw [show (s.2.1.1.length : Int) - 1 = ((s.2.1.1.length - 1 : Nat) : Int) by omega]
    refine v_callr rfl ⟨Nat.le_of_ble_eq_true rfl, Nat.le_of_ble_eq_true rfl, rfl, Nat.le_of_ble_eq_true rfl, rfl⟩ ?_
    refine R_rd125 (k := s.2.1.1.length - 1) (by omega) s3 (b6 _ hmx).1 (fun M4 x4 o4 => ?_)
    have e65 : M3 77 65 = (s.2.1.1.length : Int) - 1 := by rw [← hM3, u_eq]
    have e66 : M3 77 66 = (s.2.1.2.length : Int) + 1 := by rw [← hM3, u_n2 (by decide), u_eq]
    have r4 : RO (toks s.1.1) (NT (toks s.1.1)) M4 := RO_fr c1 (fun j hj => by rw [o4 77 j (by decide) (by omega), o3 77 j (by omega), o2 77 j (by omega)]) (fun b j hb => by rw [o4 b j (by omega) (by omega), o3 b j (by omega), o2 b j (by omega)])
    refine v_load rfl rfl ⟨rfl, Nat.le_of_ble_eq_true rfl⟩ ?_
    refine v_callr rfl ⟨Nat.le_of_ble_eq_true rfl, Nat.le_of_ble_eq_true rfl, rfl, Nat.le_of_ble_eq_true rfl, rfl⟩ ?_
    refine R_reads x4 (fun M5 s5 o5 => ?_)
    obtain ⟨h44, hlN⟩ := TM_len s5.2.2.1
    refine v_load rfl rfl ⟨rfl, Nat.le_of_ble_eq_true rfl⟩ ?_
    refine v_callr rfl ⟨Nat.le_of_ble_eq_true rfl, Nat.le_of_ble_eq_true rfl, rfl, Nat.le_of_ble_eq_true rfl, rfl⟩ ?_
    refine R_forgets s5.2.1.1 s5.2.1.2.1 h44 hlN (fun M6 k6 o6' => ?_)
    obtain ⟨o7, o7'⟩ := anewF o5 o6'
    have f77 : ∀ j, (3 ≤ j ∧ j < 4) ∨ (65 ≤ j ∧ j ≤ 68) → M6 77 j = M3 77 j := fun j hj => by rw [o7' j (by omega) (by omega) (by omega) (by omega) (by omega) (by omega) (by omega), o4 77 j (by decide) (by omega)]
    have fb : ∀ b j, b = 78 ∨ b = 125 ∨ b = 126 ∨ b < 77 ∨ 127 < b → M6 b j = M3 b j := fun b j hb => by rw [o7 b j (by omega) (by omega) (by omega) (by omega) (by omega) (by omega), o4 b j (by omega) (by omega)]
    refine v_load rfl rfl ⟨rfl, Nat.le_of_ble_eq_true rfl⟩ ?_
    refine v_getx rfl rfl (show _ = (s.2.1.1.length : Int) - 1 by rw [f77 65 (by decide)]; exact e65) ?_
    refine v_ret rfl rfl ?_
    have k6' := anewK r4 (fun so _ _ => o5.1 113 so (by decide) (by decide) (by decide)) k6
    refine k M6 ⟨RSt_oKp s5 o6', ?_, ⟨?_, fun i hi => ?_, ?_, fun x hx => ?_⟩, ⟨?_, fun i hi => ?_, ?_, fun x hx => ?_⟩, k6', ?_, ?_⟩ (fun b j hb => ?_)
    · exact RTp_fr hP (by rw [f77 3 (by decide), o3 77 3 (by decide), o2 77 3 (by omega), o1 77 3 (by decide) (by decide) (by decide)]) (fun j => by rw [fb 78 j (by decide), o3 78 j (by omega), o2 78 j (by omega), o1 78 j (by decide) (by decide) (by omega)])
    · rw [f77 65 (by decide), e65]
      show _ = ((s.2.1.1.take (s.2.1.1.length - 1)).length : Int)
      rw [ll]; omega
    · have hi' : i < s.2.1.1.length - 1 := by rw [← ll]; exact hi
      show SL 125 M6 i ((s.2.1.1.take (s.2.1.1.length - 1)).getD i [])
      rw [show (s.2.1.1.take (s.2.1.1.length - 1)).getD i [] = s.2.1.1.getD i [] by rw [List.getD_eq_getElem?_getD, List.getD_eq_getElem?_getD, List.getElem?_take, if_pos hi']]
      exact SL_fr (hHp.2.1 i (by omega)) (b6 _ (mem_getD (by omega))).1 (fun j _ _ => by rw [fb 125 j (by decide), o3 125 j (by omega), o2 125 j (by omega), o1 125 j (by decide) (by decide) (by omega)])
    · show (s.2.1.1.take (s.2.1.1.length - 1)).length ≤ 12
      omega
    · exact (b6 x (List.mem_of_mem_take hx)).1
    · rw [f77 66 (by decide), e66]
      show _ = ((s.1.1 :: s.2.1.2).length : Int)
      rw [List.length_cons]; omega
    · have hi' : i < s.2.1.2.length + 1 := hi
      show SL 126 M6 i ((s.1.1 :: s.2.1.2).getD ((s.1.1 :: s.2.1.2).length - 1 - i) [])
      rw [List.length_cons]
      by_cases ei : i = s.2.1.2.length
      · subst ei
        rw [show s.2.1.2.length + 1 - 1 - s.2.1.2.length = 0 by omega]
        exact SL_fr w2 b1 (fun j _ _ => by rw [fb 126 j (by decide), o3 126 j (by omega)])
      · rw [show s.2.1.2.length + 1 - 1 - i = (s.2.1.2.length - 1 - i) + 1 by omega]
        exact SL_fr (hHf.2.1 i (by omega)) (b7 _ (mem_getD (by omega))).1 (fun j _ _ => by rw [fb 126 j (by decide), o3 126 j (by omega), o2 126 j (by omega), o1 126 j (by decide) (by decide) (by omega)])
    · show s.2.1.2.length + 1 ≤ 12
      omega
    · rcases List.mem_cons.mp hx with rfl | hx
      · exact b1
      · exact (b7 x hx).1
    · rw [f77 67 (by decide), o3 77 67 (by decide), o2 77 67 (by omega), o1 77 67 (by decide) (by decide) (by decide)]; exact h67
    · rw [f77 68 (by decide), o3 77 68 (by decide), o2 77 68 (by omega), o1 77 68 (by decide) (by decide) (by decide)]; exact h68
    · rw [fb b j (by omega), o3 b j (by omega), o2 b j (by omega), o1 b j (by omega) (by omega) (by omega)]
theorem R_redo (hC : RS s M) (hB : BS s n) (k : ∀ M', RS (redoS s).1 M' → z_oR 77 127 M M' → Q (some (0, (redoS s).2)) M') : v_call L (d + 11) 261 [(2, 77)] M Q := by
  obtain ⟨hS, hP, hHp, hHf, -, h67, h68⟩ := id hC
  obtain ⟨b1, b2, b3, b4, b5, b6, b7, -⟩ := id hB
  unfold redoS at k
  refine v_in ?_
  have p65 := hHp.1
  have p66 := hHf.1
  by_cases c : s.2.1.2.length = 0
  · rw [if_pos c] at k
    refine v_load rfl rfl ⟨rfl, Nat.le_of_ble_eq_true rfl⟩ ?_
    refine v_getx rfl rfl (p66) ?_
    refine v_ifne rfl (fun h => absurd h (by omega)) (fun _ => ?_)
    refine v_push rfl ?_
    refine v_ret rfl rfl ?_
    exact k M hC z_oR_rf
  · rw [if_neg c] at k
    have hmx := mem_getD (x := s.2.1.2) (k := 0) (by omega)
    have lf : (s.2.1.2.drop 1).length = s.2.1.2.length - 1 := by simp
    have sl0 := hHf.2.1 (s.2.1.2.length - 1) (by omega)
    rw [show s.2.1.2.length - 1 - (s.2.1.2.length - 1) = 0 by omega] at sl0
    have epa : paA s.2.1.1 s.1.1 = s.2.1.1 ++ [s.1.1] := by unfold paA; rw [if_neg (by omega)]
    refine v_load rfl rfl ⟨rfl, Nat.le_of_ble_eq_true rfl⟩ ?_
    refine v_getx rfl rfl (p66) ?_
    refine v_ifne rfl (fun _ => ?_) (fun h => absurd h (by omega))
    refine v_load rfl rfl ⟨rfl, Nat.le_of_ble_eq_true rfl⟩ ?_
    refine v_callr rfl ⟨Nat.le_of_ble_eq_true rfl, Nat.le_of_ble_eq_true rfl, rfl, Nat.le_of_ble_eq_true rfl, rfl⟩ ?_
    refine R_remembers hS (fun M1 c1 o1 => ?_)
    refine v_load rfl rfl ⟨rfl, Nat.le_of_ble_eq_true rfl⟩ ?_
    refine v_callr rfl ⟨Nat.le_of_ble_eq_true rfl, Nat.le_of_ble_eq_true rfl, rfl, Nat.le_of_ble_eq_true rfl, rfl⟩ ?_
    refine R_notes (HRp_fr hHp (o1 77 65 (by decide) (by decide) (by decide)) (fun j => o1 125 j (by decide) (by decide) (by omega))) (RX_fr hS.1 (o1 77 4 (by decide) (by decide) (by decide)) (fun j => o1 79 j (by decide) (by decide) (by omega))) (fun M2 w2 o2 => ?_)
    refine v_load rfl rfl ⟨rfl, Nat.le_of_ble_eq_true rfl⟩ ?_
    refine v_load rfl rfl ⟨rfl, Nat.le_of_ble_eq_true rfl⟩ ?_
    refine v_getx rfl rfl (show M2 77 66 = (s.2.1.2.length : Int) by rw [o2 77 66 (by decide) (by decide), o1 77 66 (by decide) (by decide) (by decide)]; exact p66) ?_
    refine v_push rfl ?_
    refine v_sub rfl (by omega) ?_
    refine v_puti rfl rfl rfl ?_
    refine v_load rfl rfl ⟨rfl, Nat.le_of_ble_eq_true rfl⟩ ?_
    refine v_load rfl rfl ⟨rfl, Nat.le_of_ble_eq_true rfl⟩ ?_
    refine v_getp rfl rfl rfl ?_
    refine v_load rfl rfl ⟨rfl, Nat.le_of_ble_eq_true rfl⟩ ?_
    refine v_getx rfl rfl (show _ = (s.2.1.2.length : Int) - 1 by rw [u_eq]) ?_
    generalize hM3 : z_upd M2 77 66 ((s.2.1.2.length : Int) - 1) = M3
    have o3 : ∀ b j, (b = 77 → j ≠ 66) → M3 b j = M2 b j := upd1 hM3
    have s3 : SL 126 M3 (s.2.1.2.length - 1) (s.2.1.2.getD 0 []) := SL_fr sl0 (b7 _ hmx).1 (fun j _ _ => by rw [o3 126 j (by omega), o2 126 j (by omega) (by omega), o1 126 j (by decide) (by decide) (by omega)])
    rw [show (s.2.1.2.length : Int) - 1 = ((s.2.1.2.length - 1 : Nat) : Int) by omega]
    refine v_callr rfl ⟨Nat.le_of_ble_eq_true rfl, Nat.le_of_ble_eq_true rfl, rfl, Nat.le_of_ble_eq_true rfl, rfl⟩ ?_
    refine R_rd126 (k := s.2.1.2.length - 1) (by omega) s3 (b7 _ hmx).1 (fun M4 x4 o4 => ?_)
    have e66 : M3 77 66 = (s.2.1.2.length : Int) - 1 := by rw [← hM3, u_eq]
    have r4 : RO (toks s.1.1) (NT (toks s.1.1)) M4 := RO_fr c1 (fun j hj => by rw [o4 77 j (by decide) (by omega), o3 77 j (by omega), o2 77 j (by decide) (by omega)]) (fun b j hb => by rw [o4 b j (by omega) (by omega), o3 b j (by omega), o2 b j (by omega) (by omega)])
    refine v_load rfl rfl ⟨rfl, Nat.le_of_ble_eq_true rfl⟩ ?_
    refine v_callr rfl ⟨Nat.le_of_ble_eq_true rfl, Nat.le_of_ble_eq_true rfl, rfl, Nat.le_of_ble_eq_true rfl, rfl⟩ ?_
    refine R_reads x4 (fun M5 s5 o5 => ?_)
    obtain ⟨h44, hlN⟩ := TM_len s5.2.2.1
    refine v_load rfl rfl ⟨rfl, Nat.le_of_ble_eq_true rfl⟩ ?_
    refine v_callr rfl ⟨Nat.le_of_ble_eq_true rfl, Nat.le_of_ble_eq_true rfl, rfl, Nat.le_of_ble_eq_true rfl, rfl⟩ ?_
    refine R_forgets s5.2.1.1 s5.2.1.2.1 h44 hlN (fun M6 k6 o6' => ?_)
    obtain ⟨o7, o7'⟩ := anewF o5 o6'
    have f77 : ∀ j, (3 ≤ j ∧ j < 4) ∨ (65 ≤ j ∧ j ≤ 68) → M6 77 j = M3 77 j := fun j hj => by rw [o7' j (by omega) (by omega) (by omega) (by omega) (by omega) (by omega) (by omega), o4 77 j (by decide) (by omega)]
    have fb : ∀ b j, b = 78 ∨ b = 125 ∨ b = 126 ∨ b < 77 ∨ 127 < b → M6 b j = M3 b j := fun b j hb => by rw [o7 b j (by omega) (by omega) (by omega) (by omega) (by omega) (by omega), o4 b j (by omega) (by omega)]
    refine v_load rfl rfl ⟨rfl, Nat.le_of_ble_eq_true rfl⟩ ?_
    refine v_getx rfl rfl (show _ = (s.2.1.2.length : Int) - 1 by rw [f77 66 (by decide)]; exact e66) ?_
    refine v_ret rfl rfl ?_
    have k6' := anewK r4 (fun so _ _ => o5.1 113 so (by decide) (by decide) (by decide)) k6
    have w6 := HRp_fr w2 (M' := M6) (by rw [f77 65 (by decide), o3 77 65 (by decide)]) (fun j => by rw [fb 125 j (by decide), o3 125 j (by omega)])
    rw [epa] at w6
    refine k M6 ⟨RSt_oKp s5 o6', ?_, w6, ⟨?_, fun i hi => ?_, ?_, fun x hx => ?_⟩, k6', ?_, ?_⟩ (fun b j hb => ?_)
    · exact RTp_fr hP (by rw [f77 3 (by decide), o3 77 3 (by decide), o2 77 3 (by decide) (by decide), o1 77 3 (by decide) (by decide) (by decide)]) (fun j => by rw [fb 78 j (by decide), o3 78 j (by omega), o2 78 j (by omega) (by omega), o1 78 j (by decide) (by decide) (by omega)])
    · rw [f77 66 (by decide), e66]
      show _ = ((s.2.1.2.drop 1).length : Int)
      rw [lf]; omega
    · have hi' : i < s.2.1.2.length - 1 := by rw [← lf]; exact hi
      show SL 126 M6 i ((s.2.1.2.drop 1).getD ((s.2.1.2.drop 1).length - 1 - i) [])
      rw [lf, show (s.2.1.2.drop 1).getD (s.2.1.2.length - 1 - 1 - i) [] = s.2.1.2.getD (s.2.1.2.length - 1 - i) [] by rw [List.getD_eq_getElem?_getD, List.getD_eq_getElem?_getD, List.getElem?_drop, show 1 + (s.2.1.2.length - 1 - 1 - i) = s.2.1.2.length - 1 - i by omega]]
      exact SL_fr (hHf.2.1 i (by omega)) (b7 _ (mem_getD (by omega))).1 (fun j _ _ => by rw [fb 126 j (by decide), o3 126 j (by omega), o2 126 j (by omega) (by omega), o1 126 j (by decide) (by decide) (by omega)])
    · show (s.2.1.2.drop 1).length ≤ 12
      omega
    · exact (b7 x (List.mem_of_mem_drop hx)).1
    · rw [f77 67 (by decide), o3 77 67 (by decide), o2 77 67 (by decide) (by decide), o1 77 67 (by decide) (by decide) (by decide)]; exact h67
    · rw [f77 68 (by decide), o3 77 68 (by decide), o2 77 68 (by decide) (by decide), o1 77 68 (by decide) (by decide) (by decide)]; exact h68
    · rw [fb b j (by omega), o3 b j (by omega), o2 b j (by omega) (by omega), o1 b j (by omega) (by omega) (by omega)]
end A3
