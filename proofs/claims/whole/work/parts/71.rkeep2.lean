/-- the reference's kept ones -/
def KPR (O : Nat → Int) (Kp : Nat → Bool) (Ls : Int → Int) (nT nN : Nat) (M : zM) : Prop := (∀ i : Nat, i < nT → M 123 (i : Int) = O i) ∧ (∀ i : Nat, i < nN → M 124 (i : Int) = b2i (Kp i)) ∧ (∀ s, 0 ≤ s → s < 18 → M 114 s = Ls s) ∧ M 77 61 = cI (fun i => decide (O i ≠ -1)) nT ∧ M 77 62 = cI Kp nN
/-- what is changed by forgetting, keeping -/
def oKp (M M' : zM) : Prop := ∀ b j, b ≠ 114 → b ≠ 123 → b ≠ 124 → (b = 77 → j ≠ 61 ∧ j ≠ 62) → M' b j = M b j
theorem oKp_tr {M M1 M2 : zM} (h : oKp M M1) (h2 : oKp M1 M2) : oKp M M2 := fun b j a1 a2 a3 a4 => (h2 b j a1 a2 a3 a4).trans (h b j a1 a2 a3 a4)
section RK2
variable {L d : Nat} {M : zM} {Q : Option zV → zM → Prop} {t : List Int}
theorem R_fg1 {nT : Nat} (M0 : zM) (h10 : M0 77 10 = (nT : Int)) (hl : nT ≤ 300) (k : ∀ M', (∀ i : Nat, i < nT → M' 123 (i : Int) = -1) → (∀ b j, b ≠ 123 → M' b j = M0 b j) → v_wp L d 225 33 [(2, 77), (0, (nT : Int))] [] M' Q) : ∀ (n j : Nat) (Mc : zM), n = nT - j → j ≤ nT → (∀ i : Nat, i < j → Mc 123 (i : Int) = -1) → (∀ b i, b ≠ 123 → Mc b i = M0 b i) → v_wp L d 225 12 [(2, 77), (0, (j : Int))] [] Mc Q := by
  intro n
  induction n with
  | zero =>
    intro j Mc hn hj hz ho
    have ej : j = nT := by omega
    subst ej
    have p : Mc 77 10 = (j : Int) := (ho 77 10 (by decide)).trans h10
    refine v_load rfl rfl ⟨rfl, Nat.le_of_ble_eq_true rfl⟩ ?_
    refine v_load rfl rfl ⟨rfl, Nat.le_of_ble_eq_true rfl⟩ ?_
    refine v_getx rfl rfl (p) ?_
    refine v_ige rfl (fun _ => ?_) (fun h => absurd h (by omega))
    exact k Mc hz ho
  | succ n ih =>
    intro j Mc hn hj hz ho
    have p : Mc 77 10 = (nT : Int) := (ho 77 10 (by decide)).trans h10
    refine v_load rfl rfl ⟨rfl, Nat.le_of_ble_eq_true rfl⟩ ?_
    refine v_load rfl rfl ⟨rfl, Nat.le_of_ble_eq_true rfl⟩ ?_
    refine v_getx rfl rfl (p) ?_
    refine v_ige rfl (fun h => absurd h (by omega)) (fun _ => ?_)
    refine v_load rfl rfl ⟨rfl, Nat.le_of_ble_eq_true rfl⟩ ?_
    refine v_getp rfl rfl rfl ?_
    refine v_load rfl rfl ⟨rfl, Nat.le_of_ble_eq_true rfl⟩ ?_
    refine v_push rfl ?_
    refine v_ast9 rfl rfl (by decide) ⟨by omega, by show _ < (300 : Int); omega⟩ ?_
    refine v_iinc rfl rfl rfl (by omega) rfl ?_
    refine v_goto rfl ?_
    refine ih (j + 1) _ (by omega) (by omega) (fun i hi => ?_) (fun b i hb => by rw [u_n1 hb]; exact ho b i hb)
    by_cases e : i = j
    · subst e; rw [u_eq]
    · rw [u_n2 (by omega)]; exact hz i (by omega)
theorem R_fg2 {nN : Nat} (M0 : zM) (h44 : M0 77 44 = (nN : Int)) (hl : nN ≤ 1216) (k : ∀ M', (∀ i : Nat, i < nN → M' 124 (i : Int) = 0) → (∀ b j, b ≠ 124 → M' b j = M0 b j) → v_wp L d 225 56 [(2, 77), (0, (nN : Int))] [] M' Q) : ∀ (n j : Nat) (Mc : zM), n = nN - j → j ≤ nN → (∀ i : Nat, i < j → Mc 124 (i : Int) = 0) → (∀ b i, b ≠ 124 → Mc b i = M0 b i) → v_wp L d 225 35 [(2, 77), (0, (j : Int))] [] Mc Q := by
  intro n
  induction n with
  | zero =>
    intro j Mc hn hj hz ho
    have ej : j = nN := by omega
    subst ej
    have p : Mc 77 44 = (j : Int) := (ho 77 44 (by decide)).trans h44
    refine v_load rfl rfl ⟨rfl, Nat.le_of_ble_eq_true rfl⟩ ?_
    refine v_load rfl rfl ⟨rfl, Nat.le_of_ble_eq_true rfl⟩ ?_
    refine v_getx rfl rfl (p) ?_
    refine v_ige rfl (fun _ => ?_) (fun h => absurd h (by omega))
    exact k Mc hz ho
  | succ n ih =>
    intro j Mc hn hj hz ho
    have p : Mc 77 44 = (nN : Int) := (ho 77 44 (by decide)).trans h44
    refine v_load rfl rfl ⟨rfl, Nat.le_of_ble_eq_true rfl⟩ ?_
    refine v_load rfl rfl ⟨rfl, Nat.le_of_ble_eq_true rfl⟩ ?_
    refine v_getx rfl rfl (p) ?_
    refine v_ige rfl (fun h => absurd h (by omega)) (fun _ => ?_)
    refine v_load rfl rfl ⟨rfl, Nat.le_of_ble_eq_true rfl⟩ ?_
    refine v_getp rfl rfl rfl ?_
    refine v_load rfl rfl ⟨rfl, Nat.le_of_ble_eq_true rfl⟩ ?_
    refine v_push rfl ?_
    refine v_ast11 rfl rfl (by decide) ⟨by omega, by show _ < (1600 : Int); omega⟩ (by first | exact Or.inl rfl | exact Or.inr rfl | omega) ?_
    refine v_iinc rfl rfl rfl (by omega) rfl ?_
    refine v_goto rfl ?_
    refine ih (j + 1) _ (by omega) (by omega) (fun i hi => ?_) (fun b i hb => by rw [u_n1 hb]; exact ho b i hb)
    by_cases e : i = j
    · subst e; rw [u_eq]
    · rw [u_n2 (by omega)]; exact hz i (by omega)
theorem R_fg3 (M0 : zM) (k : ∀ M', (∀ s, 0 ≤ s → s < 18 → M' 114 s = M0 113 s) → (∀ b j, b ≠ 114 → M' b j = M0 b j) → Q none M') : ∀ (n : Nat) (j : Int) (Mc : zM), n = (18 - j).toNat → 0 ≤ j → j ≤ 18 → (∀ s, 0 ≤ s → s < j → Mc 114 s = M0 113 s) → (∀ b i, b ≠ 114 → Mc b i = M0 b i) → v_wp L d 225 58 [(2, 77), (0, j)] [] Mc Q := by
  intro n
  induction n with
  | zero =>
    intro j Mc hn h0 h1 hz ho
    have ej : j = 18 := by omega
    subst ej
    refine v_load rfl rfl ⟨rfl, Nat.le_of_ble_eq_true rfl⟩ ?_
    refine v_push rfl ?_
    refine v_ige rfl (fun _ => ?_) (fun h => absurd h (by decide))
    refine v_ret rfl rfl ?_
    exact k Mc hz ho
  | succ n ih =>
    intro j Mc hn h0 h1 hz ho
    refine v_load rfl rfl ⟨rfl, Nat.le_of_ble_eq_true rfl⟩ ?_
    refine v_push rfl ?_
    refine v_ige rfl (fun h => absurd h (by omega)) (fun _ => ?_)
    refine v_load rfl rfl ⟨rfl, Nat.le_of_ble_eq_true rfl⟩ ?_
    refine v_getp rfl rfl rfl ?_
    refine v_load rfl rfl ⟨rfl, Nat.le_of_ble_eq_true rfl⟩ ?_
    refine v_load rfl rfl ⟨rfl, Nat.le_of_ble_eq_true rfl⟩ ?_
    refine v_getp rfl rfl rfl ?_
    refine v_load rfl rfl ⟨rfl, Nat.le_of_ble_eq_true rfl⟩ ?_
    refine v_ald9 rfl rfl ⟨by omega, by show _ < (18 : Int); omega⟩ ?_
    rw [ho 113 j (by decide)]
    refine v_ast9 rfl rfl (by decide) ⟨by omega, by show _ < (18 : Int); omega⟩ ?_
    refine v_iinc rfl rfl rfl (by omega) rfl ?_
    refine v_goto rfl ?_
    refine ih (j + 1) _ (by omega) (by omega) (by omega) (fun s s0 s1 => ?_) (fun b i hb => by rw [u_n1 hb]; exact ho b i hb)
    by_cases e : s = j
    · rw [e, u_eq]
    · rw [u_n2 e]; exact hz s s0 (by omega)
theorem R_forgets {nT nN : Nat} (h10 : M 77 10 = (nT : Int)) (hlT : nT ≤ 300) (h44 : M 77 44 = (nN : Int)) (hlN : nN ≤ 1216) (k : ∀ M', KPR oNo (fun _ => false) (fun s => M 113 s) nT nN M' → oKp M M' → Q none M') : v_call L d 225 [(2, 77)] M Q := by
  refine v_in ?_
  refine v_load rfl rfl ⟨rfl, Nat.le_of_ble_eq_true rfl⟩ ?_
  refine v_push rfl ?_
  refine v_puti rfl rfl rfl ?_
  refine v_load rfl rfl ⟨rfl, Nat.le_of_ble_eq_true rfl⟩ ?_
  refine v_push rfl ?_
  refine v_puti rfl rfl rfl ?_
  refine v_push rfl ?_
  refine v_store rfl ⟨rfl, Nat.le_of_ble_eq_true rfl, Nat.le_of_ble_eq_true rfl, rfl⟩ rfl ?_
  have o0 : ∀ b j, (b = 77 → j ≠ 61 ∧ j ≠ 62) → z_upd (z_upd M 77 61 0) 77 62 0 b j = M b j := fun b j h => by
    have h3 : ¬ (b = 77 ∧ j = 61) := fun z => (h z.1).1 z.2
    have h4 : ¬ (b = 77 ∧ j = 62) := fun z => (h z.1).2 z.2
    simp only [z_upd]
    rw [if_neg h4, if_neg h3]
  refine R_fg1 (nT := nT) _ (by rw [o0 77 10 (by decide)]; exact h10) hlT (fun M1 a1 o1 => ?_) _ 0 _ rfl (Nat.zero_le _) (fun i hi => absurd hi (Nat.not_lt_zero _)) (fun _ _ _ => rfl)
  refine v_push rfl ?_
  refine v_store rfl ⟨rfl, Nat.le_of_ble_eq_true rfl, Nat.le_of_ble_eq_true rfl, rfl⟩ rfl ?_
  refine R_fg2 (nN := nN) M1 (by rw [o1 77 44 (by decide), o0 77 44 (by decide)]; exact h44) hlN (fun M2 a2 o2 => ?_) _ 0 _ rfl (Nat.zero_le _) (fun i hi => absurd hi (Nat.not_lt_zero _)) (fun _ _ _ => rfl)
  refine v_push rfl ?_
  refine v_store rfl ⟨rfl, Nat.le_of_ble_eq_true rfl, Nat.le_of_ble_eq_true rfl, rfl⟩ rfl ?_
  refine R_fg3 M2 (fun M3 a3 o3 => ?_) _ 0 _ rfl (by decide) (by decide) (fun s s0 s1 => absurd s1 (by omega)) (fun _ _ _ => rfl)
  refine k M3 ⟨fun i hi => ?_, fun i hi => ?_, fun s s0 s1 => ?_, ?_, ?_⟩ (fun b j h1 h2 h3 h4 => ?_)
  · rw [o3 123 _ (by decide), o2 123 _ (by decide)]; exact a1 i hi
  · rw [o3 124 _ (by decide)]; exact a2 i hi
  · rw [a3 s s0 s1, o2 113 s (by decide), o1 113 s (by decide), o0 113 s (by omega)]
  · rw [o3 77 61 (by decide), o2 77 61 (by decide), o1 77 61 (by decide), u_n2 (by decide), u_eq]; exact (cI_none (fun i => rfl) _).symm
  · rw [o3 77 62 (by decide), o2 77 62 (by decide), o1 77 62 (by decide), u_eq]; exact (cI_none (fun i => rfl) _).symm
  · rw [o3 b j h1, o2 b j h3, o1 b j h2, o0 b j h4]
theorem R_isLike {T0 T1 : List zT} {N0 : List zQ} {i o : Nat} {a b more : Int} (hR : RR T1 M) (hO : RO T0 N0 M) (hl0 : T0.length ≤ 300) (hi : i < T1.length) (ho : o < T0.length) (hb : 0 ≤ (T0.getD o t0).2.1 ∧ (T0.getD o t0).2.1 ≤ 300 ∧ -1000 ≤ more ∧ more ≤ 1000) (k1 : lkP T0 T1 a b more i o → Q (some (0, 1)) M) (k2 : ¬ lkP T0 T1 a b more i o → Q (some (0, 0)) M) : v_call L d 226 [(2, 77), (0, (i : Int)), (0, (o : Int)), (0, a), (0, b), (0, more)] M Q := by
  have hl1 := hR.2.1
  obtain ⟨g1, g2, g3, g4⟩ := hR.2.2 i hi
  obtain ⟨f1, f2, f3, f4⟩ := hO.2.1 o ho
  unfold lkP at k1 k2
  refine v_in ?_
  refine v_load rfl rfl ⟨rfl, Nat.le_of_ble_eq_true rfl⟩ ?_
  refine v_getp rfl rfl rfl ?_
  refine v_load rfl rfl ⟨rfl, Nat.le_of_ble_eq_true rfl⟩ ?_
  refine v_ald9 rfl rfl ⟨by omega, by show _ < (300 : Int); omega⟩ ?_
  refine v_load rfl rfl ⟨rfl, Nat.le_of_ble_eq_true rfl⟩ ?_
  refine v_getp rfl rfl rfl ?_
  refine v_load rfl rfl ⟨rfl, Nat.le_of_ble_eq_true rfl⟩ ?_
  refine v_ald9 rfl rfl ⟨by omega, by show _ < (300 : Int); omega⟩ ?_
  refine v_ine rfl (fun c1 => ?_) (fun c1 => ?_)
  · refine v_push rfl ?_
    refine v_retz rfl (by first | exact Or.inl rfl | exact Or.inr rfl | exact b2i_01 _ | omega) ?_
    first | exact k1 (by omega) | exact k2 (by omega)
  · refine v_load rfl rfl ⟨rfl, Nat.le_of_ble_eq_true rfl⟩ ?_
    refine v_getp rfl rfl rfl ?_
    refine v_load rfl rfl ⟨rfl, Nat.le_of_ble_eq_true rfl⟩ ?_
    refine v_ald9 rfl rfl ⟨by omega, by show _ < (300 : Int); omega⟩ ?_
    refine v_load rfl rfl ⟨rfl, Nat.le_of_ble_eq_true rfl⟩ ?_
    refine v_getp rfl rfl rfl ?_
    refine v_load rfl rfl ⟨rfl, Nat.le_of_ble_eq_true rfl⟩ ?_
    refine v_ald9 rfl rfl ⟨by omega, by show _ < (300 : Int); omega⟩ ?_
    refine v_ieq rfl (fun c2 => ?_) (fun c2 => ?_)
    · refine v_load rfl rfl ⟨rfl, Nat.le_of_ble_eq_true rfl⟩ ?_
      refine v_getp rfl rfl rfl ?_
      refine v_load rfl rfl ⟨rfl, Nat.le_of_ble_eq_true rfl⟩ ?_
      refine v_ald9 rfl rfl ⟨by omega, by show _ < (300 : Int); omega⟩ ?_
      refine v_load rfl rfl ⟨rfl, Nat.le_of_ble_eq_true rfl⟩ ?_
      refine v_ige rfl (fun c3 => ?_) (fun c3 => ?_)
      · refine v_load rfl rfl ⟨rfl, Nat.le_of_ble_eq_true rfl⟩ ?_
        refine v_getp rfl rfl rfl ?_
        refine v_load rfl rfl ⟨rfl, Nat.le_of_ble_eq_true rfl⟩ ?_
        refine v_ald9 rfl rfl ⟨by omega, by show _ < (300 : Int); omega⟩ ?_
        refine v_load rfl rfl ⟨rfl, Nat.le_of_ble_eq_true rfl⟩ ?_
        refine v_ilt rfl (fun c4 => ?_) (fun c4 => ?_)
        · refine v_push rfl ?_
          refine v_retz rfl (by first | exact Or.inl rfl | exact Or.inr rfl | exact b2i_01 _ | omega) ?_
          first | exact k1 (by omega) | exact k2 (by omega)
        · refine v_load rfl rfl ⟨rfl, Nat.le_of_ble_eq_true rfl⟩ ?_
          refine v_getp rfl rfl rfl ?_
          refine v_load rfl rfl ⟨rfl, Nat.le_of_ble_eq_true rfl⟩ ?_
          refine v_ald9 rfl rfl ⟨by omega, by show _ < (300 : Int); omega⟩ ?_
          refine v_load rfl rfl ⟨rfl, Nat.le_of_ble_eq_true rfl⟩ ?_
          refine v_getp rfl rfl rfl ?_
          refine v_load rfl rfl ⟨rfl, Nat.le_of_ble_eq_true rfl⟩ ?_
          refine v_ald9 rfl rfl ⟨by omega, by show _ < (300 : Int); omega⟩ ?_
          refine v_load rfl rfl ⟨rfl, Nat.le_of_ble_eq_true rfl⟩ ?_
          refine v_add rfl (by omega) ?_
          refine v_ine rfl (fun c5 => ?_) (fun c5 => ?_)
          · refine v_push rfl ?_
            refine v_retz rfl (by first | exact Or.inl rfl | exact Or.inr rfl | exact b2i_01 _ | omega) ?_
            first | exact k1 (by omega) | exact k2 (by omega)
          · refine v_push rfl ?_
            refine v_goto rfl ?_
            refine v_retz rfl (by first | exact Or.inl rfl | exact Or.inr rfl | exact b2i_01 _ | omega) ?_
            first | exact k1 (by omega) | exact k2 (by omega)
      · refine v_load rfl rfl ⟨rfl, Nat.le_of_ble_eq_true rfl⟩ ?_
        refine v_getp rfl rfl rfl ?_
        refine v_load rfl rfl ⟨rfl, Nat.le_of_ble_eq_true rfl⟩ ?_
        refine v_ald9 rfl rfl ⟨by omega, by show _ < (300 : Int); omega⟩ ?_
        refine v_load rfl rfl ⟨rfl, Nat.le_of_ble_eq_true rfl⟩ ?_
        refine v_getp rfl rfl rfl ?_
        refine v_load rfl rfl ⟨rfl, Nat.le_of_ble_eq_true rfl⟩ ?_
        refine v_ald9 rfl rfl ⟨by omega, by show _ < (300 : Int); omega⟩ ?_
        refine v_ine rfl (fun c6 => ?_) (fun c6 => ?_)
        · refine v_push rfl ?_
          refine v_retz rfl (by first | exact Or.inl rfl | exact Or.inr rfl | exact b2i_01 _ | omega) ?_
          first | exact k1 (by omega) | exact k2 (by omega)
        · refine v_push rfl ?_
          refine v_goto rfl ?_
          refine v_retz rfl (by first | exact Or.inl rfl | exact Or.inr rfl | exact b2i_01 _ | omega) ?_
          first | exact k1 (by omega) | exact k2 (by omega)
    · refine v_push rfl ?_
      refine v_retz rfl (by first | exact Or.inl rfl | exact Or.inr rfl | exact b2i_01 _ | omega) ?_
      first | exact k1 (by omega) | exact k2 (by omega)
theorem R_wasOf_loop {t0' : List Int} {T1 : List zT} {N0 : List zQ} {i : Nat} {a b more : Int} (hR : RR T1 M) (hO : RO (toks t0') N0 M) (hl0 : t0'.length ≤ 300) (hi : i < T1.length) (hab : a ≤ b ∧ a - b ≤ more ∧ -1000 ≤ more ∧ more ≤ 1000) (k : Q (some (0, og (toks t0') T1 a b more i)) M) : ∀ (n j : Nat), n = (toks t0').length - j → j ≤ (toks t0').length → (∀ o, o < j → ¬ lkP (toks t0') T1 a b more i o) → v_wp L (d + 1) 227 3 [(2, 77), (0, (i : Int)), (0, a), (0, b), (0, more), (0, (j : Int))] [] M Q := by
  intro n
  have h59 := hO.1
  have htl := toks_len t0'
  induction n with
  | zero =>
    intro j hn hj hz
    have ej : j = (toks t0').length := by omega
    subst ej
    have e : og (toks t0') T1 a b more i = -1 := by
      by_cases c : og (toks t0') T1 a b more i = -1
      · exact c
      · have := og_lk hab.1 c
        exact absurd this.2 (hz _ this.1)
    rw [e] at k
    refine v_load rfl rfl ⟨rfl, Nat.le_of_ble_eq_true rfl⟩ ?_
    refine v_load rfl rfl ⟨rfl, Nat.le_of_ble_eq_true rfl⟩ ?_
    refine v_getx rfl rfl (h59) ?_
    refine v_ige rfl (fun _ => ?_) (fun h => absurd h (by omega))
    refine v_push rfl ?_
    refine v_ret rfl rfl ?_
    exact k
  | succ n ih =>
    intro j hn hj hz
    have hjl : j < (toks t0').length := by omega
    have hq := (toks_at hjl).1
    refine v_load rfl rfl ⟨rfl, Nat.le_of_ble_eq_true rfl⟩ ?_
    refine v_load rfl rfl ⟨rfl, Nat.le_of_ble_eq_true rfl⟩ ?_
    refine v_getx rfl rfl (h59) ?_
    refine v_ige rfl (fun h => absurd h (by omega)) (fun _ => ?_)
    refine v_load rfl rfl ⟨rfl, Nat.le_of_ble_eq_true rfl⟩ ?_
    refine v_load rfl rfl ⟨rfl, Nat.le_of_ble_eq_true rfl⟩ ?_
    refine v_load rfl rfl ⟨rfl, Nat.le_of_ble_eq_true rfl⟩ ?_
    refine v_load rfl rfl ⟨rfl, Nat.le_of_ble_eq_true rfl⟩ ?_
    refine v_load rfl rfl ⟨rfl, Nat.le_of_ble_eq_true rfl⟩ ?_
    refine v_load rfl rfl ⟨rfl, Nat.le_of_ble_eq_true rfl⟩ ?_
    refine v_callr rfl ⟨Nat.le_of_ble_eq_true rfl, Nat.le_of_ble_eq_true rfl, rfl, Nat.le_of_ble_eq_true rfl, rfl⟩ ?_
    refine R_isLike hR hO (by omega) hi hjl ⟨by omega, by omega, by omega, by omega⟩ (fun c => ?_) (fun c => ?_)
    · have e := lk_og hl0 hjl hab.1 hab.2.1 c
      rw [e] at k
      refine v_ifeq rfl (fun h => absurd h (by decide)) (fun _ => ?_)
      refine v_load rfl rfl ⟨rfl, Nat.le_of_ble_eq_true rfl⟩ ?_
      refine v_ret rfl rfl ?_
      exact k
    · refine v_ifeq rfl (fun _ => ?_) (fun h => absurd h (by decide))
      refine v_iinc rfl rfl rfl (by omega) rfl ?_
      refine v_goto rfl ?_
      refine ih (j + 1) (by omega) (by omega) (fun o h => ?_)
      by_cases e : o = j
      · subst e; exact c
      · exact hz o (by omega)
theorem R_wasOf {t0' : List Int} {T1 : List zT} {N0 : List zQ} {i : Nat} {a b more : Int} (hR : RR T1 M) (hO : RO (toks t0') N0 M) (hl0 : t0'.length ≤ 300) (hi : i < T1.length) (hab : a ≤ b ∧ a - b ≤ more ∧ -1000 ≤ more ∧ more ≤ 1000) (k : Q (some (0, og (toks t0') T1 a b more i)) M) : v_call L (d + 1) 227 [(2, 77), (0, (i : Int)), (0, a), (0, b), (0, more)] M Q := by
  refine v_in ?_
  refine v_push rfl ?_
  refine v_store rfl ⟨rfl, Nat.le_of_ble_eq_true rfl, Nat.le_of_ble_eq_true rfl, rfl⟩ rfl ?_
  exact R_wasOf_loop hR hO hl0 hi hab k _ 0 rfl (Nat.zero_le _) (fun o h => absurd h (Nat.not_lt_zero _))
/-- are all tokens of a node kept side by side -/
theorem R_wereAll_loop {T : List zT} {O : Nat → Int} {i : Nat} (hT : TM T M) (hi : i < (NT T).length) (hl : T.length ≤ 300) (hO : ∀ i : Nat, i < T.length → M 123 (i : Int) = O i) (hOr : ∀ i, i < T.length → -1 ≤ O i ∧ O i ≤ 300) (hb : 0 ≤ ((NT T).getD i n0).2.2.2.2.2.1 ∧ 0 < ((NT T).getD i n0).2.2.2.2.2.2.1 ∧ ((NT T).getD i n0).2.2.2.2.2.1 + ((NT T).getD i n0).2.2.2.2.2.2.1 ≤ (T.length : Int))
    (k1 : sbs O ((NT T).getD i n0).2.2.2.2.2.1.toNat ((NT T).getD i n0).2.2.2.2.2.2.1.toNat → Q (some (0, 1)) M) (k2 : ¬ sbs O ((NT T).getD i n0).2.2.2.2.2.1.toNat ((NT T).getD i n0).2.2.2.2.2.2.1.toNat → Q (some (0, 0)) M) : ∀ (n j : Nat), (j : Int) + (n : Int) = ((NT T).getD i n0).2.2.2.2.2.2.1 → sbs O ((NT T).getD i n0).2.2.2.2.2.1.toNat j → v_wp L d 228 9 [(2, 77), (0, (i : Int)), (0, ((NT T).getD i n0).2.2.2.2.2.1), (0, (j : Int))] [] M Q := by
  intro n
  obtain ⟨-, -, -, -, -, -, g7, -⟩ := TM_at hT hi
  have hN := (TM_len hT).2
  generalize ((NT T).getD i n0).2.2.2.2.2.1 = fr at *
  generalize ((NT T).getD i n0).2.2.2.2.2.2.1 = tn at *
  induction n with
  | zero =>
    intro j hj hs
    refine v_load rfl rfl ⟨rfl, Nat.le_of_ble_eq_true rfl⟩ ?_
    refine v_load rfl rfl ⟨rfl, Nat.le_of_ble_eq_true rfl⟩ ?_
    refine v_getp rfl rfl rfl ?_
    refine v_load rfl rfl ⟨rfl, Nat.le_of_ble_eq_true rfl⟩ ?_
    refine v_ald9 rfl rfl ⟨by omega, by show _ < (1600 : Int); omega⟩ ?_
    refine v_ige rfl (fun _ => ?_) (fun h => absurd h (by omega))
    refine v_push rfl ?_
    refine v_ret rfl rfl ?_
    exact k1 (by rw [show tn.toNat = j by omega]; exact hs)
  | succ n ih =>
    intro j hj hs
    have m1 := hO (fr.toNat + j) (by omega)
    rw [show ((fr.toNat + j : Nat) : Int) = fr + (j : Int) by omega] at m1
    have m2 := hO fr.toNat (by omega)
    rw [show ((fr.toNat : Nat) : Int) = fr by omega] at m2
    have hr := hOr fr.toNat (by omega)
    have hno : (O (fr.toNat + j) = -1 ∨ O (fr.toNat + j) ≠ O fr.toNat + (j : Int)) → v_wp L d 228 50 [(2, 77), (0, (i : Int)), (0, fr), (0, (j : Int))] [] M Q := by
      intro h
      refine v_push rfl (v_retz rfl (Or.inl rfl) (k2 (fun z => ?_)))
      have := z j (by omega)
      omega
    refine v_load rfl rfl ⟨rfl, Nat.le_of_ble_eq_true rfl⟩ ?_
    refine v_load rfl rfl ⟨rfl, Nat.le_of_ble_eq_true rfl⟩ ?_
    refine v_getp rfl rfl rfl ?_
    refine v_load rfl rfl ⟨rfl, Nat.le_of_ble_eq_true rfl⟩ ?_
    refine v_ald9 rfl rfl ⟨by omega, by show _ < (1600 : Int); omega⟩ ?_
    refine v_ige rfl (fun h => absurd h (by omega)) (fun _ => ?_)
    refine v_load rfl rfl ⟨rfl, Nat.le_of_ble_eq_true rfl⟩ ?_
    refine v_getp rfl rfl rfl ?_
    refine v_load rfl rfl ⟨rfl, Nat.le_of_ble_eq_true rfl⟩ ?_
    refine v_load rfl rfl ⟨rfl, Nat.le_of_ble_eq_true rfl⟩ ?_
    refine v_add rfl (by omega) ?_
    refine v_ald9 rfl rfl ⟨by omega, by show _ < (300 : Int); omega⟩ ?_
    rw [m1]
    refine v_push rfl ?_
    refine v_ieq rfl (fun c1 => ?_) (fun c1 => ?_)
    · exact hno (Or.inl c1)
    · refine v_load rfl rfl ⟨rfl, Nat.le_of_ble_eq_true rfl⟩ ?_
      refine v_getp rfl rfl rfl ?_
      refine v_load rfl rfl ⟨rfl, Nat.le_of_ble_eq_true rfl⟩ ?_
      refine v_load rfl rfl ⟨rfl, Nat.le_of_ble_eq_true rfl⟩ ?_
      refine v_add rfl (by omega) ?_
      refine v_ald9 rfl rfl ⟨by omega, by show _ < (300 : Int); omega⟩ ?_
      rw [m1]
      refine v_load rfl rfl ⟨rfl, Nat.le_of_ble_eq_true rfl⟩ ?_
      refine v_getp rfl rfl rfl ?_
      refine v_load rfl rfl ⟨rfl, Nat.le_of_ble_eq_true rfl⟩ ?_
      refine v_ald9 rfl rfl ⟨by omega, by show _ < (300 : Int); omega⟩ ?_
      rw [m2]
      refine v_load rfl rfl ⟨rfl, Nat.le_of_ble_eq_true rfl⟩ ?_
      refine v_add rfl (by omega) ?_
      refine v_ieq rfl (fun c2 => ?_) (fun c2 => ?_)
      · refine v_iinc rfl rfl rfl (by omega) rfl ?_
        refine v_goto rfl ?_
        refine ih (j + 1) (by omega) (fun k hk => ?_)
        by_cases e : k = j
        · subst e; exact ⟨c1, c2⟩
        · exact hs k (by omega)
      · exact hno (Or.inr c2)
theorem R_wereAll {T : List zT} {O : Nat → Int} {i : Nat} (hT : TM T M) (hi : i < (NT T).length) (hl : T.length ≤ 300) (hO : ∀ i : Nat, i < T.length → M 123 (i : Int) = O i) (hOr : ∀ i, i < T.length → -1 ≤ O i ∧ O i ≤ 300) (hb : 0 ≤ ((NT T).getD i n0).2.2.2.2.2.1 ∧ 0 < ((NT T).getD i n0).2.2.2.2.2.2.1 ∧ ((NT T).getD i n0).2.2.2.2.2.1 + ((NT T).getD i n0).2.2.2.2.2.2.1 ≤ (T.length : Int))
    (k1 : sbs O ((NT T).getD i n0).2.2.2.2.2.1.toNat ((NT T).getD i n0).2.2.2.2.2.2.1.toNat → Q (some (0, 1)) M) (k2 : ¬ sbs O ((NT T).getD i n0).2.2.2.2.2.1.toNat ((NT T).getD i n0).2.2.2.2.2.2.1.toNat → Q (some (0, 0)) M) : v_call L d 228 [(2, 77), (0, (i : Int))] M Q := by
  obtain ⟨-, -, -, -, -, g6, g7, -⟩ := TM_at hT hi
  rw [if_pos hb.2.1] at g6
  have hN := (TM_len hT).2
  refine v_in ?_
  refine v_load rfl rfl ⟨rfl, Nat.le_of_ble_eq_true rfl⟩ ?_
  refine v_getp rfl rfl rfl ?_
  refine v_load rfl rfl ⟨rfl, Nat.le_of_ble_eq_true rfl⟩ ?_
  refine v_ald9 rfl rfl ⟨by omega, by show _ < (1600 : Int); omega⟩ ?_
  rw [g6]
  refine v_store rfl ⟨rfl, Nat.le_of_ble_eq_true rfl, Nat.le_of_ble_eq_true rfl, rfl⟩ rfl ?_
  refine v_push rfl ?_
  refine v_store rfl ⟨rfl, Nat.le_of_ble_eq_true rfl, Nat.le_of_ble_eq_true rfl, rfl⟩ rfl ?_
  exact R_wereAll_loop hT hi hl hO hOr hb k1 k2 ((NT T).getD i n0).2.2.2.2.2.2.1.toNat 0 (by omega) (fun k hk => absurd hk (Nat.not_lt_zero _))
theorem R_wasThere_loop {T0 : List zT} {N0 : List zQ} {so or_ tn : Int} (hO : RO T0 N0 M) (hl0 : N0.length ≤ 1216) (hso : 1 ≤ so) (h00 : 0 < N0.length → (N0.getD 0 n0).1 = 0) (htn : 0 < tn) (k1 : (∃ o, o < N0.length ∧ (N0.getD o n0).1 = so ∧ (N0.getD o n0).2.2.2.2.2.2.1 = tn ∧ (N0.getD o n0).2.2.2.2.2.1 = or_) → Q (some (0, 1)) M) (k2 : (¬ ∃ o, o < N0.length ∧ (N0.getD o n0).1 = so ∧ (N0.getD o n0).2.2.2.2.2.2.1 = tn ∧ (N0.getD o n0).2.2.2.2.2.1 = or_) → Q (some (0, 0)) M) : ∀ (n j : Nat), n = N0.length - j → 1 ≤ j → (∀ o, o < j → o < N0.length → ¬ ((N0.getD o n0).1 = so ∧ (N0.getD o n0).2.2.2.2.2.2.1 = tn ∧ (N0.getD o n0).2.2.2.2.2.1 = or_)) → v_wp L d 229 3 [(2, 77), (0, so), (0, or_), (0, tn), (0, (j : Int))] [] M Q := by
  intro n
  have h60 := hO.2.2.1
  induction n with
  | zero =>
    intro j hn hj hz
    refine v_load rfl rfl ⟨rfl, Nat.le_of_ble_eq_true rfl⟩ ?_
    refine v_load rfl rfl ⟨rfl, Nat.le_of_ble_eq_true rfl⟩ ?_
    refine v_getx rfl rfl (h60) ?_
    refine v_ige rfl (fun _ => ?_) (fun h => absurd h (by omega))
    refine v_push rfl ?_
    refine v_ret rfl rfl ?_
    exact k2 (fun ⟨o, o1, o2⟩ => hz o (by omega) o1 o2)
  | succ n ih =>
    intro j hn hj hz
    have hjl : j < N0.length := by omega
    obtain ⟨f1, f2, f3⟩ := hO.2.2.2.1 j hjl
    have nx : ¬ ((N0.getD j n0).1 = so ∧ (N0.getD j n0).2.2.2.2.2.2.1 = tn ∧ (N0.getD j n0).2.2.2.2.2.1 = or_) → v_wp L d 229 47 [(2, 77), (0, so), (0, or_), (0, tn), (0, (j : Int))] [] M Q := by
      intro h
      refine v_iinc rfl rfl rfl (by omega) rfl ?_
      refine v_goto rfl ?_
      refine ih (j + 1) (by omega) (by omega) (fun o o1 o2 => ?_)
      by_cases e : o = j
      · subst e; exact h
      · exact hz o (by omega) o2
    refine v_load rfl rfl ⟨rfl, Nat.le_of_ble_eq_true rfl⟩ ?_
    refine v_load rfl rfl ⟨rfl, Nat.le_of_ble_eq_true rfl⟩ ?_
    refine v_getx rfl rfl (h60) ?_
    refine v_ige rfl (fun h => absurd h (by omega)) (fun _ => ?_)
    refine v_load rfl rfl ⟨rfl, Nat.le_of_ble_eq_true rfl⟩ ?_
    refine v_getp rfl rfl rfl ?_
    refine v_load rfl rfl ⟨rfl, Nat.le_of_ble_eq_true rfl⟩ ?_
    refine v_ald9 rfl rfl ⟨by omega, by show _ < (1600 : Int); omega⟩ ?_
    rw [f1]
    refine v_load rfl rfl ⟨rfl, Nat.le_of_ble_eq_true rfl⟩ ?_
    refine v_ine rfl (fun c1 => ?_) (fun c1 => ?_)
    · exact nx (fun z => c1 z.1)
    · refine v_load rfl rfl ⟨rfl, Nat.le_of_ble_eq_true rfl⟩ ?_
      refine v_getp rfl rfl rfl ?_
      refine v_load rfl rfl ⟨rfl, Nat.le_of_ble_eq_true rfl⟩ ?_
      refine v_ald9 rfl rfl ⟨by omega, by show _ < (1600 : Int); omega⟩ ?_
      rw [f3]
      refine v_load rfl rfl ⟨rfl, Nat.le_of_ble_eq_true rfl⟩ ?_
      refine v_ine rfl (fun c2 => ?_) (fun c2 => ?_)
      · exact nx (fun z => c2 z.2.1)
      · refine v_load rfl rfl ⟨rfl, Nat.le_of_ble_eq_true rfl⟩ ?_
        refine v_getp rfl rfl rfl ?_
        refine v_load rfl rfl ⟨rfl, Nat.le_of_ble_eq_true rfl⟩ ?_
        refine v_ald9 rfl rfl ⟨by omega, by show _ < (1600 : Int); omega⟩ ?_
        rw [f2, if_pos (by omega)]
        refine v_load rfl rfl ⟨rfl, Nat.le_of_ble_eq_true rfl⟩ ?_
        refine v_ine rfl (fun c3 => ?_) (fun c3 => ?_)
        · exact nx (fun z => c3 z.2.2)
        · refine v_push rfl ?_
          refine v_ret rfl rfl ?_
          exact k1 ⟨j, hjl, c1, c2, c3⟩
theorem R_wasThere {T0 : List zT} {N0 : List zQ} {so or_ tn : Int} (hO : RO T0 N0 M) (hl0 : N0.length ≤ 1216) (hso : 1 ≤ so) (h00 : 0 < N0.length → (N0.getD 0 n0).1 = 0) (htn : 0 < tn) (k1 : (∃ o, o < N0.length ∧ (N0.getD o n0).1 = so ∧ (N0.getD o n0).2.2.2.2.2.2.1 = tn ∧ (N0.getD o n0).2.2.2.2.2.1 = or_) → Q (some (0, 1)) M) (k2 : (¬ ∃ o, o < N0.length ∧ (N0.getD o n0).1 = so ∧ (N0.getD o n0).2.2.2.2.2.2.1 = tn ∧ (N0.getD o n0).2.2.2.2.2.1 = or_) → Q (some (0, 0)) M) : v_call L d 229 [(2, 77), (0, so), (0, or_), (0, tn)] M Q := by
  refine v_in ?_
  refine v_push rfl ?_
  refine v_store rfl ⟨rfl, Nat.le_of_ble_eq_true rfl, Nat.le_of_ble_eq_true rfl, rfl⟩ rfl ?_
  refine R_wasThere_loop hO hl0 hso h00 htn k1 k2 _ 1 rfl (Nat.le_refl _) (fun o o1 o2 z => ?_)
  have := h00 (by omega)
  rw [show o = 0 by omega] at z
  omega
end RK2
