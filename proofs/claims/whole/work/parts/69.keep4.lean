/-! WHAT IS KEPT: the class compares (methods 28, 29, 32, 33) -/
/-- how many nodes of a sort are lost -/
noncomputable def lsS (O : Nat → Int) (N0 N1 : List zQ) (s : Int) (n : Nat) : Int := mnS N0 s N0.length - cI (fun i => kpB O N0 N1 i && decide ((N1.getD i n0).1 = s)) n
/-- the class's kept ones: tokens, nodes, what is lost -/
def KPC (O : Nat → Int) (Kp : Nat → Bool) (Ls : Int → Int) (nT nN : Nat) (M : zM) : Prop := KO O nT M ∧ (∀ i : Nat, i < nN → M 73 (i : Int) = b2i (Kp i)) ∧ (∀ s, 0 ≤ s → s < 18 → M 74 s = Ls s) ∧ M 62 16 = cI (fun i => decide (O i ≠ -1)) nT ∧ M 62 17 = cI Kp nN
section KP4
variable {L d : Nat} {M : zM} {Q : Option zV → zM → Prop} {T0 T1 : List zT} {N0 N1 : List zQ} {O : Nat → Int}
theorem S_addLoss {s v : Int} (hs : 0 ≤ s ∧ s < 18) (hv : -2000 ≤ M 74 s + v ∧ M 74 s + v ≤ 2000) (k : Q none (z_upd M 74 s (M 74 s + v))) : v_call L d 33 [(2, 62), (0, s), (0, v)] M Q := by
  refine v_in ?_
  refine v_load rfl rfl ⟨rfl, Nat.le_of_ble_eq_true rfl⟩ ?_
  refine v_iflt rfl (fun h => absurd h (by omega)) (fun _ => ?_)
  refine v_load rfl rfl ⟨rfl, Nat.le_of_ble_eq_true rfl⟩ ?_
  refine v_load rfl rfl ⟨rfl, Nat.le_of_ble_eq_true rfl⟩ ?_
  refine v_getp rfl rfl rfl ?_
  refine v_len rfl ⟨Nat.le_of_ble_eq_true rfl, Nat.le_of_ble_eq_true rfl⟩ rfl ?_
  refine v_ige rfl (fun h => absurd h (by show ¬ (18 : Int) ≤ s; omega)) (fun _ => ?_)
  refine v_load rfl rfl ⟨rfl, Nat.le_of_ble_eq_true rfl⟩ ?_
  refine v_getp rfl rfl rfl ?_
  refine v_load rfl rfl ⟨rfl, Nat.le_of_ble_eq_true rfl⟩ ?_
  refine v_dup2 rfl ⟨Or.inl rfl, Or.inr rfl⟩ ?_
  refine v_ald9 rfl rfl ⟨by omega, by show _ < (18 : Int); omega⟩ ?_
  refine v_load rfl rfl ⟨rfl, Nat.le_of_ble_eq_true rfl⟩ ?_
  refine v_add rfl (by omega) ?_
  refine v_ast9 rfl rfl (by decide) ⟨by omega, by show _ < (18 : Int); omega⟩ ?_
  refine v_ret rfl rfl ?_
  exact k
theorem S_cmpN_zero (M0 : zM) (k : ∀ M', (∀ p, 0 ≤ p → p < 18 → M' 74 p = 0) → (∀ b j, b ≠ 74 → M' b j = M0 b j) → v_wp L d 32 28 [(2, 62), (0, 18)] [] M' Q) : ∀ (n : Nat) (j : Int) (Mc : zM), n = (18 - j).toNat → 0 ≤ j → j ≤ 18 → (∀ p, 0 ≤ p → p < j → Mc 74 p = 0) → (∀ b i, b ≠ 74 → Mc b i = M0 b i) → v_wp L d 32 6 [(2, 62), (0, j)] [] Mc Q := by
  intro n
  induction n with
  | zero =>
    intro j Mc hn h0 h1 hz ho
    have ej : j = 18 := by omega
    subst ej
    refine v_load rfl rfl ⟨rfl, Nat.le_of_ble_eq_true rfl⟩ ?_
    refine v_load rfl rfl ⟨rfl, Nat.le_of_ble_eq_true rfl⟩ ?_
    refine v_getp rfl rfl rfl ?_
    refine v_len rfl ⟨Nat.le_of_ble_eq_true rfl, Nat.le_of_ble_eq_true rfl⟩ rfl ?_
    refine v_ige rfl (fun _ => ?_) (fun h => absurd h (by show ¬ (18 : Int) < 18; decide))
    exact k Mc hz ho
  | succ n ih =>
    intro j Mc hn h0 h1 hz ho
    refine v_load rfl rfl ⟨rfl, Nat.le_of_ble_eq_true rfl⟩ ?_
    refine v_load rfl rfl ⟨rfl, Nat.le_of_ble_eq_true rfl⟩ ?_
    refine v_getp rfl rfl rfl ?_
    refine v_len rfl ⟨Nat.le_of_ble_eq_true rfl, Nat.le_of_ble_eq_true rfl⟩ rfl ?_
    refine v_ige rfl (fun h => absurd h (by show ¬ (18 : Int) ≤ j; omega)) (fun _ => ?_)
    refine v_load rfl rfl ⟨rfl, Nat.le_of_ble_eq_true rfl⟩ ?_
    refine v_getp rfl rfl rfl ?_
    refine v_load rfl rfl ⟨rfl, Nat.le_of_ble_eq_true rfl⟩ ?_
    refine v_push rfl ?_
    refine v_ast9 rfl rfl (by decide) ⟨by omega, by show _ < (18 : Int); omega⟩ ?_
    refine v_iinc rfl rfl rfl (by omega) rfl ?_
    refine v_goto rfl ?_
    refine ih (j + 1) _ (by omega) (by omega) (by omega) (fun s s0 s1 => ?_) (fun b i hb => by rw [u_n1 hb]; exact ho b i hb)
    by_cases e : s = j
    · rw [e, u_eq]
    · rw [u_n2 e]; exact hz s s0 (by omega)
theorem S_cmpN_old (M0 : zM) (h11 : M0 62 11 = (N0.length : Int)) (hOn : OCN N0 N0.length M0) (hl0 : N0.length ≤ 1216) (hso : ∀ i : Nat, i < N0.length → 0 ≤ (N0.getD i n0).1 ∧ (N0.getD i n0).1 ≤ 17) (k : ∀ M', (∀ s, 0 ≤ s → s < 18 → M' 74 s = mnS N0 s N0.length) → (∀ b j, b ≠ 74 → M' b j = M0 b j) → v_wp L (d + 1) 32 62 [(2, 62), (0, (N0.length : Int))] [] M' Q) : ∀ (n j : Nat) (Mc : zM), n = N0.length - j → j ≤ N0.length → (∀ s, 0 ≤ s → s < 18 → Mc 74 s = mnS N0 s j) → (∀ b i, b ≠ 74 → Mc b i = M0 b i) → v_wp L (d + 1) 32 30 [(2, 62), (0, (j : Int))] [] Mc Q := by
  intro n
  induction n with
  | zero =>
    intro j Mc hn hj hz ho
    have ej : j = N0.length := by omega
    subst ej
    have p11 : Mc 62 11 = (N0.length : Int) := (ho 62 11 (by decide)).trans h11
    refine v_load rfl rfl ⟨rfl, Nat.le_of_ble_eq_true rfl⟩ ?_
    refine v_load rfl rfl ⟨rfl, Nat.le_of_ble_eq_true rfl⟩ ?_
    refine v_getx rfl rfl (p11) ?_
    refine v_ige rfl (fun _ => ?_) (fun h => absurd h (by omega))
    exact k Mc hz ho
  | succ n ih =>
    intro j Mc hn hj hz ho
    have p11 : Mc 62 11 = (N0.length : Int) := (ho 62 11 (by decide)).trans h11
    obtain ⟨s2, s3⟩ := hso j (by omega)
    have g67 : Mc 67 (j : Int) = (N0.getD j n0).1 := (ho 67 _ (by decide)).trans (hOn.1 j (by omega)).1
    have hz1 := hz (N0.getD j n0).1 s2 (by omega)
    have hcn : 0 ≤ mnS N0 (N0.getD j n0).1 j ∧ mnS N0 (N0.getD j n0).1 j ≤ (j : Int) := cI_nn _ j
    refine v_load rfl rfl ⟨rfl, Nat.le_of_ble_eq_true rfl⟩ ?_
    refine v_load rfl rfl ⟨rfl, Nat.le_of_ble_eq_true rfl⟩ ?_
    refine v_getx rfl rfl (p11) ?_
    refine v_ige rfl (fun h => absurd h (by omega)) (fun _ => ?_)
    refine v_load rfl rfl ⟨rfl, Nat.le_of_ble_eq_true rfl⟩ ?_
    refine v_push rfl ?_
    refine v_ige rfl (fun h => absurd h (by omega)) (fun _ => ?_)
    refine v_load rfl rfl ⟨rfl, Nat.le_of_ble_eq_true rfl⟩ ?_
    refine v_load rfl rfl ⟨rfl, Nat.le_of_ble_eq_true rfl⟩ ?_
    refine v_getp rfl rfl rfl ?_
    refine v_load rfl rfl ⟨rfl, Nat.le_of_ble_eq_true rfl⟩ ?_
    refine v_ald9 rfl rfl ⟨by omega, by show _ < (1216 : Int); omega⟩ ?_
    rw [g67]
    refine v_push rfl ?_
    refine v_callr rfl ⟨Nat.le_of_ble_eq_true rfl, Nat.le_of_ble_eq_true rfl, rfl, Nat.le_of_ble_eq_true rfl, rfl⟩ ?_
    refine S_addLoss ⟨s2, by omega⟩ ⟨by omega, by omega⟩ ?_
    refine v_iinc rfl rfl rfl (by omega) rfl ?_
    refine v_goto rfl ?_
    rw [hz1]
    refine ih (j + 1) _ (by omega) (by omega) (fun s s0 s1' => ?_) (fun b i hb => by rw [u_n1 hb]; exact ho b i hb)
    show _ = mnS N0 s j + (if decide ((N0.getD j n0).1 = s) = true then 1 else 0)
    by_cases e : (N0.getD j n0).1 = s
    · rw [if_pos (by simpa using e), e, u_eq]
    · rw [if_neg (by simpa using e), u_n2 (fun z => e z.symm), hz s s0 s1']; omega
theorem S_cmpN_new (M0 : zM) (hOC : OC T0 N0 M0) (hl0 : N0.length ≤ 1216) (hR : RT T1 M0) (hRN : RN N1 M0) (hO : KO O T1.length M0) (hOr : ∀ i, i < T1.length → -1 ≤ O i ∧ O i ≤ 300) (hrun : ∀ i : Nat, i < T1.length → M0 72 (i : Int) = rnK O T1.length (T1.length - i)) (hnd : ∀ i : Nat, i < N1.length → 0 ≤ (N1.getD i n0).2.2.2.2.2.1 ∧ 0 ≤ (N1.getD i n0).2.2.2.2.2.2.1 ∧ (N1.getD i n0).2.2.2.2.2.1 + (N1.getD i n0).2.2.2.2.2.2.1 ≤ (T1.length : Int)) (hso : ∀ i : Nat, i < N1.length → 0 ≤ (N1.getD i n0).1 ∧ (N1.getD i n0).1 ≤ 17) (hmono : ∀ x y : Nat, x ≤ y → y < N0.length → (N0.getD x n0).2.2.2.2.2.1 ≤ (N0.getD y n0).2.2.2.2.2.1)
    (k : ∀ M', (∀ i : Nat, i < N1.length → M' 73 (i : Int) = b2i (kpB O N0 N1 i)) → (∀ s, 0 ≤ s → s < 18 → M' 74 s = lsS O N0 N1 s N1.length) → M' 62 17 = cI (kpB O N0 N1) N1.length → (∀ b j, b ≠ 73 → b ≠ 74 → (b = 62 → j ≠ 17) → M' b j = M0 b j) → Q none M') : ∀ (n j : Nat) (Mc : zM), n = N1.length - j → j ≤ N1.length → (∀ i : Nat, i < j → Mc 73 (i : Int) = b2i (kpB O N0 N1 i)) → (∀ s, 0 ≤ s → s < 18 → Mc 74 s = lsS O N0 N1 s j) → Mc 62 17 = cI (kpB O N0 N1) j → (∀ b i, b ≠ 73 → b ≠ 74 → (b = 62 → i ≠ 17) → Mc b i = M0 b i) → v_wp L (d + 3) 32 69 [(2, 62), (0, (j : Int))] [] Mc Q := by
  intro n
  have hl1 := hRN.2.1
  induction n with
  | zero =>
    intro j Mc hn hj h73 h74 h17 ho
    have ej : j = N1.length := by omega
    subst ej
    have hRc : RN N1 Mc := RN_oR (lo := 62) (hi := 74) hRN (fun b i hb => ho b i (by omega) (by omega) (by omega)) (by decide)
    refine v_load rfl rfl ⟨rfl, Nat.le_of_ble_eq_true rfl⟩ ?_
    refine v_load rfl rfl ⟨rfl, Nat.le_of_ble_eq_true rfl⟩ ?_
    refine v_getp rfl rfl rfl ?_
    refine v_callr rfl ⟨Nat.le_of_ble_eq_true rfl, Nat.le_of_ble_eq_true rfl, rfl, Nat.le_of_ble_eq_true rfl, rfl⟩ ?_
    refine S_ndSize hRc ?_
    refine v_ige rfl (fun _ => ?_) (fun h => absurd h (by omega))
    refine v_ret rfl rfl ?_
    exact k Mc h73 h74 h17 ho
  | succ n ih =>
    intro j Mc hn hj h73 h74 h17 ho
    have hjl : j < N1.length := by omega
    have hRc : RN N1 Mc := RN_oR (lo := 62) (hi := 74) hRN (fun b i hb => ho b i (by omega) (by omega) (by omega)) (by decide)
    have hTc : RT T1 Mc := RT_oR (lo := 62) (hi := 74) hR (fun b i hb => ho b i (by omega) (by omega) (by omega)) (by decide)
    have hOCc : OC T0 N0 Mc := by
      obtain ⟨c1, ⟨c2, c3⟩, c4, c5, c6⟩ := hOC
      refine ⟨by rw [ho 62 6 (by decide) (by decide) (by decide)]; exact c1, ⟨fun i hi => ?_, fun p p0 p1 => ?_⟩, by rw [ho 62 11 (by decide) (by decide) (by decide)]; exact c4, fun i hi => ?_, fun p p0 p1 => ?_⟩
      · rw [ho 63 _ (by decide) (by decide) (by omega), ho 64 _ (by decide) (by decide) (by omega), ho 65 _ (by decide) (by decide) (by omega)]; exact c2 i hi
      · rw [ho 66 _ (by decide) (by decide) (by omega)]; exact c3 p p0 p1
      · rw [ho 67 _ (by decide) (by decide) (by omega), ho 68 _ (by decide) (by decide) (by omega), ho 69 _ (by decide) (by decide) (by omega)]; exact c5 i hi
      · rw [ho 70 _ (by decide) (by decide) (by omega)]; exact c6 p p0 p1
    have hKc : KO O T1.length Mc := fun i hi => by rw [ho 71 _ (by decide) (by decide) (by omega)]; exact hO i hi
    have hrc : ∀ i : Nat, i < T1.length → Mc 72 (i : Int) = rnK O T1.length (T1.length - i) := fun i hi => by rw [ho 72 _ (by decide) (by decide) (by omega)]; exact hrun i hi
    have ens : nd N1 (j : Int) = N1.getD j n0 := nd_nat hjl
    obtain ⟨s2, s3⟩ := hso j hjl
    have hz1 := h74 (N1.getD j n0).1 s2 (by omega)
    have hcn : 0 ≤ mnS N0 (N1.getD j n0).1 N0.length ∧ mnS N0 (N1.getD j n0).1 N0.length ≤ (N0.length : Int) := cI_nn _ _
    have hcm := cI_nn (fun i => kpB O N0 N1 i && decide ((N1.getD i n0).1 = (N1.getD j n0).1)) j
    have hck := cI_nn (kpB O N0 N1) j
    have hls : lsS O N0 N1 (N1.getD j n0).1 j = mnS N0 (N1.getD j n0).1 N0.length - cI (fun i => kpB O N0 N1 i && decide ((N1.getD i n0).1 = (N1.getD j n0).1)) j := rfl
    cases hkp : kpB O N0 N1 j with
    | false =>
      refine v_load rfl rfl ⟨rfl, Nat.le_of_ble_eq_true rfl⟩ ?_
      refine v_load rfl rfl ⟨rfl, Nat.le_of_ble_eq_true rfl⟩ ?_
      refine v_getp rfl rfl rfl ?_
      refine v_callr rfl ⟨Nat.le_of_ble_eq_true rfl, Nat.le_of_ble_eq_true rfl, rfl, Nat.le_of_ble_eq_true rfl, rfl⟩ ?_
      refine S_ndSize hRc ?_
      refine v_ige rfl (fun h => absurd h (by omega)) (fun _ => ?_)
      refine v_load rfl rfl ⟨rfl, Nat.le_of_ble_eq_true rfl⟩ ?_
      refine v_load rfl rfl ⟨rfl, Nat.le_of_ble_eq_true rfl⟩ ?_
      refine v_getp rfl rfl rfl ?_
      refine v_len rfl ⟨Nat.le_of_ble_eq_true rfl, Nat.le_of_ble_eq_true rfl⟩ rfl ?_
      refine v_ige rfl (fun h => absurd h (by show ¬ (1216 : Int) ≤ _; omega)) (fun _ => ?_)
      refine v_load rfl rfl ⟨rfl, Nat.le_of_ble_eq_true rfl⟩ ?_
      refine v_getp rfl rfl rfl ?_
      refine v_load rfl rfl ⟨rfl, Nat.le_of_ble_eq_true rfl⟩ ?_
      refine v_load rfl rfl ⟨rfl, Nat.le_of_ble_eq_true rfl⟩ ?_
      refine v_load rfl rfl ⟨rfl, Nat.le_of_ble_eq_true rfl⟩ ?_
      refine v_callr rfl ⟨Nat.le_of_ble_eq_true rfl, Nat.le_of_ble_eq_true rfl, rfl, Nat.le_of_ble_eq_true rfl, rfl⟩ ?_
      refine S_wasThere hOCc hl0 hTc hRc hjl hKc hOr hrc (hnd j hjl) hmono ?_
      rw [hkp]
      refine v_ast11 rfl rfl (by decide) ⟨by omega, by show _ < (1216 : Int); omega⟩ (by exact Or.inl rfl) ?_
      refine v_load rfl rfl ⟨rfl, Nat.le_of_ble_eq_true rfl⟩ ?_
      refine v_getp rfl rfl rfl ?_
      refine v_load rfl rfl ⟨rfl, Nat.le_of_ble_eq_true rfl⟩ ?_
      refine v_ald11 rfl rfl ⟨by omega, by show _ < (1216 : Int); omega⟩ ?_
      rw [u_eq]
      refine v_ifeq rfl (fun _ => ?_) (fun h => absurd h (by decide))
      refine v_iinc rfl rfl rfl (by omega) rfl ?_
      refine v_goto rfl ?_
      refine ih (j + 1) _ (by omega) (by omega) (fun i hi => ?_) (fun s s0 s1 => ?_) ?_ (fun b i b1 b2 b3 => by rw [u_n1 b1]; exact ho b i b1 b2 b3)
      · by_cases e : i = j
        · subst e; rw [u_eq, hkp]
        · rw [u_n2 (by omega)]; exact h73 i (by omega)
      · rw [u_n1 (by decide), h74 s s0 s1]
        show _ = mnS N0 s N0.length - (cI _ j + (if (kpB O N0 N1 j && decide ((N1.getD j n0).1 = s)) = true then 1 else 0))
        rw [hkp]
        simp only [Bool.false_and, Bool.false_eq_true, if_false, Int.add_zero]
        rfl
      · rw [u_n1 (by decide), h17]
        show _ = cI _ j + (if kpB O N0 N1 j = true then 1 else 0)
        rw [hkp]
        simp
    | true =>
      refine v_load rfl rfl ⟨rfl, Nat.le_of_ble_eq_true rfl⟩ ?_
      refine v_load rfl rfl ⟨rfl, Nat.le_of_ble_eq_true rfl⟩ ?_
      refine v_getp rfl rfl rfl ?_
      refine v_callr rfl ⟨Nat.le_of_ble_eq_true rfl, Nat.le_of_ble_eq_true rfl, rfl, Nat.le_of_ble_eq_true rfl, rfl⟩ ?_
      refine S_ndSize hRc ?_
      refine v_ige rfl (fun h => absurd h (by omega)) (fun _ => ?_)
      refine v_load rfl rfl ⟨rfl, Nat.le_of_ble_eq_true rfl⟩ ?_
      refine v_load rfl rfl ⟨rfl, Nat.le_of_ble_eq_true rfl⟩ ?_
      refine v_getp rfl rfl rfl ?_
      refine v_len rfl ⟨Nat.le_of_ble_eq_true rfl, Nat.le_of_ble_eq_true rfl⟩ rfl ?_
      refine v_ige rfl (fun h => absurd h (by show ¬ (1216 : Int) ≤ _; omega)) (fun _ => ?_)
      refine v_load rfl rfl ⟨rfl, Nat.le_of_ble_eq_true rfl⟩ ?_
      refine v_getp rfl rfl rfl ?_
      refine v_load rfl rfl ⟨rfl, Nat.le_of_ble_eq_true rfl⟩ ?_
      refine v_load rfl rfl ⟨rfl, Nat.le_of_ble_eq_true rfl⟩ ?_
      refine v_load rfl rfl ⟨rfl, Nat.le_of_ble_eq_true rfl⟩ ?_
      refine v_callr rfl ⟨Nat.le_of_ble_eq_true rfl, Nat.le_of_ble_eq_true rfl, rfl, Nat.le_of_ble_eq_true rfl, rfl⟩ ?_
      refine S_wasThere hOCc hl0 hTc hRc hjl hKc hOr hrc (hnd j hjl) hmono ?_
      rw [hkp]
      refine v_ast11 rfl rfl (by decide) ⟨by omega, by show _ < (1216 : Int); omega⟩ (by exact Or.inr rfl) ?_
      refine v_load rfl rfl ⟨rfl, Nat.le_of_ble_eq_true rfl⟩ ?_
      refine v_getp rfl rfl rfl ?_
      refine v_load rfl rfl ⟨rfl, Nat.le_of_ble_eq_true rfl⟩ ?_
      refine v_ald11 rfl rfl ⟨by omega, by show _ < (1216 : Int); omega⟩ ?_
      rw [u_eq]
      refine v_ifeq rfl (fun h => absurd h (by decide)) (fun _ => ?_)
      refine v_load rfl rfl ⟨rfl, Nat.le_of_ble_eq_true rfl⟩ ?_
      refine v_dup rfl (Or.inr rfl) ?_
      refine v_getx rfl rfl (show _ = cI (kpB O N0 N1) j by rw [u_n1 (by decide)]; exact h17) ?_
      refine v_push rfl ?_
      refine v_add rfl (by omega) ?_
      refine v_puti rfl rfl rfl ?_
      refine v_load rfl rfl ⟨rfl, Nat.le_of_ble_eq_true rfl⟩ ?_
      refine v_load rfl rfl ⟨rfl, Nat.le_of_ble_eq_true rfl⟩ ?_
      refine v_getp rfl rfl rfl ?_
      refine v_load rfl rfl ⟨rfl, Nat.le_of_ble_eq_true rfl⟩ ?_
      refine v_callr rfl ⟨Nat.le_of_ble_eq_true rfl, Nat.le_of_ble_eq_true rfl, rfl, Nat.le_of_ble_eq_true rfl, rfl⟩ ?_
      refine S_ndSort (RN_oR (lo := 62) (hi := 74) hRc (z_oR_tr (z_oR_u (by decide)) (z_oR_u (by decide))) (by decide)) ?_
      rw [ens]
      refine v_push rfl ?_
      refine v_callr rfl ⟨Nat.le_of_ble_eq_true rfl, Nat.le_of_ble_eq_true rfl, rfl, Nat.le_of_ble_eq_true rfl, rfl⟩ ?_
      refine S_addLoss ⟨s2, by omega⟩ (by rw [u_n1 (by decide), u_n1 (by decide), hz1]; omega) ?_
      rw [u_n1 (show (74 : Int) ≠ 62 by decide), u_n1 (show (74 : Int) ≠ 73 by decide), hz1]
      refine v_iinc rfl rfl rfl (by omega) rfl ?_
      refine v_goto rfl ?_
      refine ih (j + 1) _ (by omega) (by omega) (fun i hi => ?_) (fun s s0 s1 => ?_) ?_ (fun b i b1 b2 b3 => ?_)
      · rw [u_n1 (by decide), u_n1 (by decide)]
        by_cases e : i = j
        · subst e; rw [u_eq, hkp]
        · rw [u_n2 (by omega)]; exact h73 i (by omega)
      · show _ = mnS N0 s N0.length - (cI _ j + (if (kpB O N0 N1 j && decide ((N1.getD j n0).1 = s)) = true then 1 else 0))
        rw [hkp]
        by_cases e : (N1.getD j n0).1 = s
        · rw [if_pos (by simpa using e), ← e, u_eq, hls]; omega
        · rw [if_neg (by simpa using e), u_n2 (fun z => e z.symm), u_n1 (by decide), u_n1 (by decide), h74 s s0 s1]
          show _ = mnS N0 s N0.length - (cI _ j + 0)
          rw [Int.add_zero]
          rfl
      · rw [u_n1 (by decide), u_eq]
        show _ = cI _ j + (if kpB O N0 N1 j = true then 1 else 0)
        rw [hkp]
        simp
      · have h3 : ¬ (b = 62 ∧ i = 17) := fun z => b3 z.1 z.2
        rw [u_n1 b2]
        simp only [z_upd]
        rw [if_neg h3, if_neg (by omega)]
        exact ho b i b1 b2 b3
/-- what is changed by comparing -/
def oC (M M' : zM) : Prop := ∀ b j, ¬ (71 ≤ b ∧ b ≤ 74) → (b = 62 → j ≠ 16 ∧ j ≠ 17) → M' b j = M b j
theorem S_compareNodes (hOC : OC T0 N0 M) (hl0 : N0.length ≤ 1216) (hR : RT T1 M) (hRN : RN N1 M) (hO : KO O T1.length M) (h16 : M 62 16 = cI (fun i => decide (O i ≠ -1)) T1.length) (hOr : ∀ i, i < T1.length → -1 ≤ O i ∧ O i ≤ 300) (hnd : ∀ i : Nat, i < N1.length → 0 ≤ (N1.getD i n0).2.2.2.2.2.1 ∧ 0 ≤ (N1.getD i n0).2.2.2.2.2.2.1 ∧ (N1.getD i n0).2.2.2.2.2.1 + (N1.getD i n0).2.2.2.2.2.2.1 ≤ (T1.length : Int)) (hso : ∀ i : Nat, i < N1.length → 0 ≤ (N1.getD i n0).1 ∧ (N1.getD i n0).1 ≤ 17) (hso0 : ∀ i : Nat, i < N0.length → 0 ≤ (N0.getD i n0).1 ∧ (N0.getD i n0).1 ≤ 17) (hmono : ∀ x y : Nat, x ≤ y → y < N0.length → (N0.getD x n0).2.2.2.2.2.1 ≤ (N0.getD y n0).2.2.2.2.2.1)
    (k : ∀ M', KPC O (kpB O N0 N1) (fun s => lsS O N0 N1 s N1.length) T1.length N1.length M' → oC M M' → Q none M') : v_call L (d + 3) 32 [(2, 62)] M Q := by
  refine v_in ?_
  refine v_load rfl rfl ⟨rfl, Nat.le_of_ble_eq_true rfl⟩ ?_
  refine v_callr rfl ⟨Nat.le_of_ble_eq_true rfl, Nat.le_of_ble_eq_true rfl, rfl, Nat.le_of_ble_eq_true rfl, rfl⟩ ?_
  refine S_findRuns hR hO hOr (fun M1 r1 o1 => ?_)
  refine v_push rfl ?_
  refine v_store rfl ⟨rfl, Nat.le_of_ble_eq_true rfl, Nat.le_of_ble_eq_true rfl, rfl⟩ rfl ?_
  refine S_cmpN_zero M1 (fun M2 z2 o2 => ?_) _ 0 _ rfl (by decide) (by decide) (fun p p0 p1 => absurd p1 (by omega)) (fun _ _ _ => rfl)
  have o12 : ∀ b j, b ≠ 72 → b ≠ 74 → M2 b j = M b j := fun b j b1 b2 => (o2 b j b2).trans (o1 b j b1)
  refine v_push rfl ?_
  refine v_store rfl ⟨rfl, Nat.le_of_ble_eq_true rfl, Nat.le_of_ble_eq_true rfl, rfl⟩ rfl ?_
  have hOn2 : OCN N0 N0.length M2 := ⟨fun i hi => by
    rw [o12 67 _ (by decide) (by decide), o12 68 _ (by decide) (by decide), o12 69 _ (by decide) (by decide)]; exact hOC.2.2.2.1 i hi, fun p p0 p1 => by rw [o12 70 _ (by decide) (by decide)]; exact hOC.2.2.2.2 p p0 p1⟩
  refine S_cmpN_old M2 (by rw [o12 62 11 (by decide) (by decide)]; exact hOC.2.2.1) hOn2 hl0 hso0 (fun M3 s3 o3 => ?_) _ 0 _ rfl (Nat.zero_le _) z2 (fun _ _ _ => rfl)
  have o13 : ∀ b j, b ≠ 72 → b ≠ 74 → M3 b j = M b j := fun b j b1 b2 => (o3 b j b2).trans (o12 b j b1 b2)
  refine v_load rfl rfl ⟨rfl, Nat.le_of_ble_eq_true rfl⟩ ?_
  refine v_push rfl ?_
  refine v_puti rfl rfl rfl ?_
  refine v_push rfl ?_
  refine v_store rfl ⟨rfl, Nat.le_of_ble_eq_true rfl, Nat.le_of_ble_eq_true rfl, rfl⟩ rfl ?_
  have o14 : ∀ b j, b ≠ 72 → b ≠ 74 → (b = 62 → j ≠ 17) → z_upd M3 62 17 0 b j = M b j := fun b j b1 b2 b3 => by
    have h3 : ¬ (b = 62 ∧ j = 17) := fun z => b3 z.1 z.2
    simp only [z_upd]
    rw [if_neg h3]
    exact o13 b j b1 b2
  have hOC4 : OC T0 N0 (z_upd M3 62 17 0) := by
    obtain ⟨c1, ⟨c2, c3⟩, c4, c5, c6⟩ := hOC
    refine ⟨by rw [o14 62 6 (by decide) (by decide) (by decide)]; exact c1, ⟨fun i hi => ?_, fun p p0 p1 => ?_⟩, by rw [o14 62 11 (by decide) (by decide) (by decide)]; exact c4, fun i hi => ?_, fun p p0 p1 => ?_⟩
    · rw [o14 63 _ (by decide) (by decide) (by omega), o14 64 _ (by decide) (by decide) (by omega), o14 65 _ (by decide) (by decide) (by omega)]; exact c2 i hi
    · rw [o14 66 _ (by decide) (by decide) (by omega)]; exact c3 p p0 p1
    · rw [o14 67 _ (by decide) (by decide) (by omega), o14 68 _ (by decide) (by decide) (by omega), o14 69 _ (by decide) (by decide) (by omega)]; exact c5 i hi
    · rw [o14 70 _ (by decide) (by decide) (by omega)]; exact c6 p p0 p1
  have oo : z_oR 62 74 M (z_upd M3 62 17 0) := fun b j hb => o14 b j (by omega) (by omega) (by omega)
  refine S_cmpN_new (z_upd M3 62 17 0) hOC4 hl0 (RT_oR hR oo (by decide)) (RN_oR hRN oo (by decide)) (fun i hi => by rw [o14 71 _ (by decide) (by decide) (by omega)]; exact hO i hi) hOr (fun i hi => ?_) hnd hso hmono (fun M5 a1 a2 a3 a4 => ?_) _ 0 _ rfl (Nat.zero_le _) (fun i hi => absurd hi (Nat.not_lt_zero _)) (fun s s0 s1 => ?_) u_eq (fun _ _ _ _ _ => rfl)
  · rw [u_n1 (by decide), o3 72 _ (by decide), o2 72 _ (by decide)]; exact r1 i hi
  · refine k M5 ⟨fun i hi => ?_, a1, a2, ?_, a3⟩ (fun b j h1 h2 => ?_)
    · rw [a4 71 _ (by decide) (by decide) (by omega), o14 71 _ (by decide) (by decide) (by omega)]; exact hO i hi
    · rw [a4 62 16 (by decide) (by decide) (by decide), o14 62 16 (by decide) (by decide) (by decide)]; exact h16
    · rw [a4 b j (by omega) (by omega) (fun e => (h2 e).2), o14 b j (by omega) (by omega) (fun e => (h2 e).2)]
  · rw [u_n1 (by decide), s3 s s0 s1]
    show _ = mnS N0 s N0.length - 0
    omega
theorem og_rng (T0 T1 : List zT) (a b more : Int) (i : Nat) : og T0 T1 a b more i = -1 ∨ (0 ≤ og T0 T1 a b more i ∧ og T0 T1 a b more i < (T0.length : Int)) := by
  unfold og
  repeat' split
  · rcases olT_rng T0 (T1.getD i t0).2.1 with e | e <;> omega
  · exact Or.inl rfl
  · exact Or.inl rfl
  · rcases olT_rng T0 ((T1.getD i t0).2.1 - more) with e | e <;> omega
  · exact Or.inl rfl
theorem OC_oC {M' : zM} (hOC : OC T0 N0 M) (ho : oC M M') : OC T0 N0 M' := by
  obtain ⟨c1, ⟨c2, c3⟩, c4, c5, c6⟩ := hOC
  refine ⟨by rw [ho 62 6 (by decide) (by decide)]; exact c1, ⟨fun i hi => ?_, fun p p0 p1 => ?_⟩, by rw [ho 62 11 (by decide) (by decide)]; exact c4, fun i hi => ?_, fun p p0 p1 => ?_⟩
  · rw [ho 63 _ (by decide) (by omega), ho 64 _ (by decide) (by omega), ho 65 _ (by decide) (by omega)]; exact c2 i hi
  · rw [ho 66 _ (by decide) (by omega)]; exact c3 p p0 p1
  · rw [ho 67 _ (by decide) (by omega), ho 68 _ (by decide) (by omega), ho 69 _ (by decide) (by omega)]; exact c5 i hi
  · rw [ho 70 _ (by decide) (by omega)]; exact c6 p p0 p1
theorem oC_tr {M M1 M2 : zM} (h : oC M M1) (h2 : oC M1 M2) : oC M M2 := fun b j a1 a2 => (h2 b j a1 a2).trans (h b j a1 a2)
theorem oC_R {M M' : zM} (h : oC M M') : z_oR 62 74 M M' := fun b j hb => h b j (by omega) (by omega)
theorem S_cmp_loop {a b more : Int} (M0 : zM) (hOC : OC T0 N0 M0) (hl0 : T0.length ≤ 300) (hR : RT T1 M0) (hf : ∀ i : Nat, i < T1.length → 0 ≤ (T1.getD i t0).2.1 ∧ (T1.getD i t0).2.1 < 300 ∧ 0 ≤ (T1.getD i t0).2.2.1 ∧ (T1.getD i t0).2.2.1 ≤ 300) (hm : -1000 ≤ more ∧ more ≤ 1000) (k : ∀ M', KO (og T0 T1 a b more) T1.length M' → M' 62 16 = cI (fun i => decide (og T0 T1 a b more i ≠ -1)) T1.length → oC M0 M' → v_wp L (d + 3) 29 77 [(2, 62), (0, a), (0, b), (0, more), (0, (T1.length : Int))] [] M' Q) : ∀ (n j : Nat) (Mc : zM), n = T1.length - j → j ≤ T1.length → KO (og T0 T1 a b more) j Mc → Mc 62 16 = cI (fun i => decide (og T0 T1 a b more i ≠ -1)) j → oC M0 Mc → v_wp L (d + 3) 29 8 [(2, 62), (0, a), (0, b), (0, more), (0, (j : Int))] [] Mc Q := by
  intro n
  have hl1 := hR.2.1
  induction n with
  | zero =>
    intro j Mc hn hj hO h16 ho
    have ej : j = T1.length := by omega
    subst ej
    have hRc : RT T1 Mc := RT_oR hR (oC_R ho) (by decide)
    refine v_load rfl rfl ⟨rfl, Nat.le_of_ble_eq_true rfl⟩ ?_
    refine v_load rfl rfl ⟨rfl, Nat.le_of_ble_eq_true rfl⟩ ?_
    refine v_getp rfl rfl rfl ?_
    refine v_callr rfl ⟨Nat.le_of_ble_eq_true rfl, Nat.le_of_ble_eq_true rfl, rfl, Nat.le_of_ble_eq_true rfl, rfl⟩ ?_
    refine S_tkSize hRc ?_
    refine v_ige rfl (fun _ => ?_) (fun h => absurd h (by omega))
    exact k Mc hO h16 ho
  | succ n ih =>
    intro j Mc hn hj hO h16 ho
    have hjl : j < T1.length := by omega
    have hRc : RT T1 Mc := RT_oR hR (oC_R ho) (by decide)
    have hOCc := OC_oC hOC ho
    have hck := cI_nn (fun i => decide (og T0 T1 a b more i ≠ -1)) j
    have fin : ∀ v : Int, v = (if og T0 T1 a b more j = -1 then 0 else 1) → v_wp L (d + 3) 29 67 [(2, 62), (0, a), (0, b), (0, more), (0, (j : Int))] [(0, v), (0, cI (fun i => decide (og T0 T1 a b more i ≠ -1)) j), (2, 62)] (z_upd Mc 71 (j : Int) (og T0 T1 a b more j)) Q := by
      intro v hv
      have hv2 : 0 ≤ v ∧ v ≤ 1 := by rw [hv]; split <;> omega
      refine v_add rfl (by omega) ?_
      refine v_puti rfl rfl rfl ?_
      refine v_iinc rfl rfl rfl (by omega) rfl ?_
      refine v_goto rfl ?_
      refine ih (j + 1) _ (by omega) (by omega) (fun i hi => ?_) ?_ (fun c i c1 c2 => ?_)
      · rw [u_n1 (by decide)]
        by_cases e : i = j
        · subst e; rw [u_eq]
        · rw [u_n2 (by omega)]; exact hO i (by omega)
      · rw [u_eq, hv]
        show _ = cI _ j + (if decide (og T0 T1 a b more j ≠ -1) = true then 1 else 0)
        by_cases e : og T0 T1 a b more j = -1
        · rw [if_pos e, if_neg (by simpa using e)]
        · rw [if_neg e, if_pos (by simpa using e)]
      · have h3 : ¬ (c = 62 ∧ i = 16) := fun z => (c2 z.1).1 z.2
        simp only [z_upd]
        rw [if_neg h3, if_neg (by omega)]
        exact ho c i c1 c2
    refine v_load rfl rfl ⟨rfl, Nat.le_of_ble_eq_true rfl⟩ ?_
    refine v_load rfl rfl ⟨rfl, Nat.le_of_ble_eq_true rfl⟩ ?_
    refine v_getp rfl rfl rfl ?_
    refine v_callr rfl ⟨Nat.le_of_ble_eq_true rfl, Nat.le_of_ble_eq_true rfl, rfl, Nat.le_of_ble_eq_true rfl, rfl⟩ ?_
    refine S_tkSize hRc ?_
    refine v_ige rfl (fun h => absurd h (by omega)) (fun _ => ?_)
    refine v_load rfl rfl ⟨rfl, Nat.le_of_ble_eq_true rfl⟩ ?_
    refine v_load rfl rfl ⟨rfl, Nat.le_of_ble_eq_true rfl⟩ ?_
    refine v_getp rfl rfl rfl ?_
    refine v_len rfl ⟨Nat.le_of_ble_eq_true rfl, Nat.le_of_ble_eq_true rfl⟩ rfl ?_
    refine v_ige rfl (fun h => absurd h (by show ¬ (300 : Int) ≤ _; omega)) (fun _ => ?_)
    refine v_load rfl rfl ⟨rfl, Nat.le_of_ble_eq_true rfl⟩ ?_
    refine v_getp rfl rfl rfl ?_
    refine v_load rfl rfl ⟨rfl, Nat.le_of_ble_eq_true rfl⟩ ?_
    refine v_load rfl rfl ⟨rfl, Nat.le_of_ble_eq_true rfl⟩ ?_
    refine v_load rfl rfl ⟨rfl, Nat.le_of_ble_eq_true rfl⟩ ?_
    refine v_load rfl rfl ⟨rfl, Nat.le_of_ble_eq_true rfl⟩ ?_
    refine v_load rfl rfl ⟨rfl, Nat.le_of_ble_eq_true rfl⟩ ?_
    refine v_load rfl rfl ⟨rfl, Nat.le_of_ble_eq_true rfl⟩ ?_
    refine v_callr rfl ⟨Nat.le_of_ble_eq_true rfl, Nat.le_of_ble_eq_true rfl, rfl, Nat.le_of_ble_eq_true rfl, rfl⟩ ?_
    refine S_originBy hOCc hl0 hRc hjl (hf j hjl) hm ?_
    refine v_ast9 rfl rfl (by decide) ⟨by omega, by show _ < (300 : Int); omega⟩ ?_
    refine v_load rfl rfl ⟨rfl, Nat.le_of_ble_eq_true rfl⟩ ?_
    refine v_dup rfl (Or.inr rfl) ?_
    refine v_getx rfl rfl (show _ = cI (fun i => decide (og T0 T1 a b more i ≠ -1)) j by rw [u_n1 (by decide)]; exact h16) ?_
    refine v_load rfl rfl ⟨rfl, Nat.le_of_ble_eq_true rfl⟩ ?_
    refine v_getp rfl rfl rfl ?_
    refine v_load rfl rfl ⟨rfl, Nat.le_of_ble_eq_true rfl⟩ ?_
    refine v_ald9 rfl rfl ⟨by omega, by show _ < (300 : Int); omega⟩ ?_
    rw [u_eq]
    refine v_push rfl ?_
    refine v_ine rfl (fun c1 => ?_) (fun c1 => ?_)
    · refine v_push rfl ?_
      exact fin _ (by split <;> omega)
    · refine v_push rfl ?_
      refine v_goto rfl ?_
      exact fin _ (by split <;> omega)
theorem S_compare {a b more : Int} (hOC : OC T0 N0 M) (hlT : T0.length ≤ 300) (hl0 : N0.length ≤ 1216) (hR : RT T1 M) (hRN : RN N1 M) (hf : ∀ i : Nat, i < T1.length → 0 ≤ (T1.getD i t0).2.1 ∧ (T1.getD i t0).2.1 < 300 ∧ 0 ≤ (T1.getD i t0).2.2.1 ∧ (T1.getD i t0).2.2.1 ≤ 300) (hm : -1000 ≤ more ∧ more ≤ 1000) (hnd : ∀ i : Nat, i < N1.length → 0 ≤ (N1.getD i n0).2.2.2.2.2.1 ∧ 0 ≤ (N1.getD i n0).2.2.2.2.2.2.1 ∧ (N1.getD i n0).2.2.2.2.2.1 + (N1.getD i n0).2.2.2.2.2.2.1 ≤ (T1.length : Int)) (hso : ∀ i : Nat, i < N1.length → 0 ≤ (N1.getD i n0).1 ∧ (N1.getD i n0).1 ≤ 17) (hso0 : ∀ i : Nat, i < N0.length → 0 ≤ (N0.getD i n0).1 ∧ (N0.getD i n0).1 ≤ 17) (hmono : ∀ x y : Nat, x ≤ y → y < N0.length → (N0.getD x n0).2.2.2.2.2.1 ≤ (N0.getD y n0).2.2.2.2.2.1)
    (k : ∀ M', KPC (og T0 T1 a b more) (kpB (og T0 T1 a b more) N0 N1) (fun s => lsS (og T0 T1 a b more) N0 N1 s N1.length) T1.length N1.length M' → oC M M' → Q none M') : v_call L (d + 4) 29 [(2, 62), (0, a), (0, b), (0, more)] M Q := by
  refine v_in ?_
  refine v_load rfl rfl ⟨rfl, Nat.le_of_ble_eq_true rfl⟩ ?_
  refine v_push rfl ?_
  refine v_puti rfl rfl rfl ?_
  refine v_push rfl ?_
  refine v_store rfl ⟨rfl, Nat.le_of_ble_eq_true rfl, Nat.le_of_ble_eq_true rfl, rfl⟩ rfl ?_
  have o0 : oC M (z_upd M 62 16 0) := fun b j h1 h2 => by
    have h3 : ¬ (b = 62 ∧ j = 16) := fun z => (h2 z.1).1 z.2
    simp only [z_upd]
    rw [if_neg h3]
  refine S_cmp_loop (d := d + 1) (z_upd M 62 16 0) (OC_oC hOC o0) hlT (RT_oR hR (oC_R o0) (by decide)) hf hm (fun M1 a1 a2 a3 => ?_) _ 0 _ rfl (Nat.zero_le _) (fun i hi => absurd hi (Nat.not_lt_zero _)) u_eq (fun _ _ _ _ => rfl)
  have o1 := oC_tr o0 a3
  refine v_load rfl rfl ⟨rfl, Nat.le_of_ble_eq_true rfl⟩ ?_
  refine v_callr rfl ⟨Nat.le_of_ble_eq_true rfl, Nat.le_of_ble_eq_true rfl, rfl, Nat.le_of_ble_eq_true rfl, rfl⟩ ?_
  refine S_compareNodes (OC_oC hOC o1) hl0 (RT_oR hR (oC_R o1) (by decide)) (RN_oR hRN (oC_R o1) (by decide)) a1 a2 (fun i _ => by rcases og_rng T0 T1 a b more i with e | e <;> omega) hnd hso hso0 hmono (fun M2 c1 c2 => ?_)
  refine v_ret rfl rfl ?_
  exact k M2 c1 (oC_tr o1 c2)
theorem S_cn_loop (M0 : zM) (k : ∀ M', (∀ p, 0 ≤ p → p < 300 → M' 71 p = -1) → (∀ b j, b ≠ 71 → M' b j = M0 b j) → v_wp L d 28 24 [(2, 62), (0, 300)] [] M' Q) : ∀ (n : Nat) (j : Int) (Mc : zM), n = (300 - j).toNat → 0 ≤ j → j ≤ 300 → (∀ p, 0 ≤ p → p < j → Mc 71 p = -1) → (∀ b i, b ≠ 71 → Mc b i = M0 b i) → v_wp L d 28 2 [(2, 62), (0, j)] [] Mc Q := by
  intro n
  induction n with
  | zero =>
    intro j Mc hn h0 h1 hz ho
    have ej : j = 300 := by omega
    subst ej
    refine v_load rfl rfl ⟨rfl, Nat.le_of_ble_eq_true rfl⟩ ?_
    refine v_load rfl rfl ⟨rfl, Nat.le_of_ble_eq_true rfl⟩ ?_
    refine v_getp rfl rfl rfl ?_
    refine v_len rfl ⟨Nat.le_of_ble_eq_true rfl, Nat.le_of_ble_eq_true rfl⟩ rfl ?_
    refine v_ige rfl (fun _ => ?_) (fun h => absurd h (by show ¬ (300 : Int) < 300; decide))
    exact k Mc hz ho
  | succ n ih =>
    intro j Mc hn h0 h1 hz ho
    refine v_load rfl rfl ⟨rfl, Nat.le_of_ble_eq_true rfl⟩ ?_
    refine v_load rfl rfl ⟨rfl, Nat.le_of_ble_eq_true rfl⟩ ?_
    refine v_getp rfl rfl rfl ?_
    refine v_len rfl ⟨Nat.le_of_ble_eq_true rfl, Nat.le_of_ble_eq_true rfl⟩ rfl ?_
    refine v_ige rfl (fun h => absurd h (by show ¬ (300 : Int) ≤ j; omega)) (fun _ => ?_)
    refine v_load rfl rfl ⟨rfl, Nat.le_of_ble_eq_true rfl⟩ ?_
    refine v_getp rfl rfl rfl ?_
    refine v_load rfl rfl ⟨rfl, Nat.le_of_ble_eq_true rfl⟩ ?_
    refine v_push rfl ?_
    refine v_ast9 rfl rfl (by decide) ⟨by omega, by show _ < (300 : Int); omega⟩ ?_
    refine v_iinc rfl rfl rfl (by omega) rfl ?_
    refine v_goto rfl ?_
    refine ih (j + 1) _ (by omega) (by omega) (by omega) (fun s s0 s1 => ?_) (fun b i hb => by rw [u_n1 hb]; exact ho b i hb)
    by_cases e : s = j
    · rw [e, u_eq]
    · rw [u_n2 e]; exact hz s s0 (by omega)
/-- no token is kept -/
def oNo : Nat → Int := fun _ => -1
theorem cI_none {f : Nat → Bool} (h : ∀ i, f i = false) : ∀ n, cI f n = 0
  | 0 => rfl
  | n + 1 => by
    unfold cI
    rw [cI_none h n, h n]
    rfl
theorem S_compareNothing (hOC : OC T0 N0 M) (hl0 : N0.length ≤ 1216) (hR : RT T1 M) (hRN : RN N1 M) (hnd : ∀ i : Nat, i < N1.length → 0 ≤ (N1.getD i n0).2.2.2.2.2.1 ∧ 0 ≤ (N1.getD i n0).2.2.2.2.2.2.1 ∧ (N1.getD i n0).2.2.2.2.2.1 + (N1.getD i n0).2.2.2.2.2.2.1 ≤ (T1.length : Int)) (hso : ∀ i : Nat, i < N1.length → 0 ≤ (N1.getD i n0).1 ∧ (N1.getD i n0).1 ≤ 17) (hso0 : ∀ i : Nat, i < N0.length → 0 ≤ (N0.getD i n0).1 ∧ (N0.getD i n0).1 ≤ 17) (hmono : ∀ x y : Nat, x ≤ y → y < N0.length → (N0.getD x n0).2.2.2.2.2.1 ≤ (N0.getD y n0).2.2.2.2.2.1)
    (k : ∀ M', KPC oNo (fun _ => false) (fun s => mnS N0 s N0.length) T1.length N1.length M' → oC M M' → Q none M') : v_call L (d + 4) 28 [(2, 62)] M Q := by
  have hl1 := hR.2.1
  have hno : ∀ i, kpB oNo N0 N1 i = false := fun i => kpB_no (fun z => (z.2.2.1 0 (by have := z.2.1; omega)).1 rfl)
  refine v_in ?_
  refine v_push rfl ?_
  refine v_store rfl ⟨rfl, Nat.le_of_ble_eq_true rfl, Nat.le_of_ble_eq_true rfl, rfl⟩ rfl ?_
  refine S_cn_loop M (fun M1 z1 o1 => ?_) _ 0 _ rfl (by decide) (by decide) (fun p p0 p1 => absurd p1 (by omega)) (fun _ _ _ => rfl)
  have o2 : oC M (z_upd M1 62 16 0) := fun b j h1 h2 => by
    have h3 : ¬ (b = 62 ∧ j = 16) := fun z => (h2 z.1).1 z.2
    simp only [z_upd]
    rw [if_neg h3]
    exact o1 b j (by omega)
  refine v_load rfl rfl ⟨rfl, Nat.le_of_ble_eq_true rfl⟩ ?_
  refine v_push rfl ?_
  refine v_puti rfl rfl rfl ?_
  refine v_load rfl rfl ⟨rfl, Nat.le_of_ble_eq_true rfl⟩ ?_
  refine v_callr rfl ⟨Nat.le_of_ble_eq_true rfl, Nat.le_of_ble_eq_true rfl, rfl, Nat.le_of_ble_eq_true rfl, rfl⟩ ?_
  refine S_compareNodes (O := oNo) (OC_oC hOC o2) hl0 (RT_oR hR (oC_R o2) (by decide)) (RN_oR hRN (oC_R o2) (by decide)) (fun i hi => by rw [u_n1 (by decide)]; exact z1 _ (by omega) (by omega)) (by rw [u_eq]; exact (cI_none (fun i => rfl) _).symm) (fun i _ => ⟨by show (-1 : Int) ≤ -1; decide, by show (-1 : Int) ≤ 300; decide⟩) hnd hso hso0 hmono (fun M2 c1 c2 => ?_)
  refine v_ret rfl rfl ?_
  obtain ⟨k1, k2, k3, k4, k5⟩ := c1
  refine k M2 ⟨k1, fun i hi => ?_, fun s s0 s1 => ?_, k4, ?_⟩ (oC_tr o2 c2)
  · rw [k2 i hi, hno i]
  · rw [k3 s s0 s1]
    show mnS N0 s N0.length - cI _ _ = mnS N0 s N0.length
    rw [cI_none (fun i => by rw [hno i]; rfl)]
    omega
  · rw [k5, cI_none hno, cI_none (fun _ => rfl)]
end KP4
