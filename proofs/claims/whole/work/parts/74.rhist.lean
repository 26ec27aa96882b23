/-! THE REFERENCE'S HISTORY: methods 231 to 235 -/
def SL (c : Int) (M : zM) (k : Nat) (x : List Int) : Prop := M c (301 * (k : Int)) = (x.length : Int) ∧ ∀ i, i < x.length → M c (301 * (k : Int) + 1 + (i : Int)) = x.getD i 0
def HRp (Pa : List (List Int)) (M : zM) : Prop := M 77 65 = (Pa.length : Int) ∧ (∀ k, k < Pa.length → SL 125 M k (Pa.getD k [])) ∧ Pa.length ≤ 12 ∧ ∀ x ∈ Pa, x.length ≤ 300
def HRf (Fu : List (List Int)) (M : zM) : Prop := M 77 66 = (Fu.length : Int) ∧ (∀ k, k < Fu.length → SL 126 M k (Fu.getD (Fu.length - 1 - k) [])) ∧ Fu.length ≤ 12 ∧ ∀ x ∈ Fu, x.length ≤ 300
theorem SL_fr {c : Int} {M M' : zM} {k : Nat} {x : List Int} (h : SL c M k x) (hl : x.length ≤ 300) (ho : ∀ j, 301 * (k : Int) ≤ j → j ≤ 301 * (k : Int) + 300 → M' c j = M c j) : SL c M' k x := ⟨by rw [ho _ (Int.le_refl _) (by omega)]; exact h.1, fun i hi => by rw [ho _ (by omega) (by omega)]; exact h.2 i hi⟩
section RH
variable {L d : Nat} {M : zM} {Q : Option zV → zM → Prop} {t : List Int} {Pa Fu : List (List Int)}
theorem R_wr125_loop {k : Nat} (hk : k < 12) (M0 : zM) (hX : RX t M0) (kk : ∀ M', SL 125 M' k t → (∀ b j, (b = 125 → j < 301 * (k : Int) ∨ 301 * (k : Int) + 300 < j) → M' b j = M0 b j) → Q none M') : ∀ (n j : Nat) (Mc : zM), n = t.length - j → j ≤ t.length → Mc 125 (301 * (k : Int)) = (t.length : Int) → (∀ i, i < j → Mc 125 (301 * (k : Int) + 1 + (i : Int)) = t.getD i 0) → (∀ b j, (b = 125 → j < 301 * (k : Int) ∨ 301 * (k : Int) + 300 < j) → Mc b j = M0 b j) → v_wp L d 231 13 [(2, 77), (2, 125), (0, (k : Int)), (0, (j : Int))] [] Mc Q := by
  intro n
  have hl := hX.2.1
  induction n with
  | zero =>
    intro j Mc hn hj h1 h2 ho
    have ej : j = t.length := by omega
    subst ej
    have p : Mc 77 4 = (t.length : Int) := (ho 77 4 (by omega)).trans hX.1
    refine v_load rfl rfl ⟨rfl, Nat.le_of_ble_eq_true rfl⟩ ?_
    refine v_load rfl rfl ⟨rfl, Nat.le_of_ble_eq_true rfl⟩ ?_
    refine v_getx rfl rfl (p) ?_
    refine v_ige rfl (fun _ => ?_) (fun h => absurd h (by omega))
    refine v_ret rfl rfl ?_
    exact kk Mc ⟨h1, h2⟩ ho
  | succ n ih =>
    intro j Mc hn hj h1 h2 ho
    have p : Mc 77 4 = (t.length : Int) := (ho 77 4 (by omega)).trans hX.1
    have q : Mc 79 (j : Int) = t.getD j 0 := (ho 79 _ (by omega)).trans (hX.2.2 j (by omega))
    refine v_load rfl rfl ⟨rfl, Nat.le_of_ble_eq_true rfl⟩ ?_
    refine v_load rfl rfl ⟨rfl, Nat.le_of_ble_eq_true rfl⟩ ?_
    refine v_getx rfl rfl (p) ?_
    refine v_ige rfl (fun h => absurd h (by omega)) (fun _ => ?_)
    refine v_load rfl rfl ⟨rfl, Nat.le_of_ble_eq_true rfl⟩ ?_
    refine v_push rfl ?_
    refine v_load rfl rfl ⟨rfl, Nat.le_of_ble_eq_true rfl⟩ ?_
    refine v_mul rfl (by omega) ?_
    refine v_push rfl ?_
    refine v_add rfl (by omega) ?_
    refine v_load rfl rfl ⟨rfl, Nat.le_of_ble_eq_true rfl⟩ ?_
    refine v_add rfl (by omega) ?_
    refine v_load rfl rfl ⟨rfl, Nat.le_of_ble_eq_true rfl⟩ ?_
    refine v_getp rfl rfl rfl ?_
    refine v_load rfl rfl ⟨rfl, Nat.le_of_ble_eq_true rfl⟩ ?_
    refine v_ald9 rfl rfl ⟨by omega, by show _ < (300 : Int); omega⟩ ?_
    rw [q]
    refine v_ast9 rfl rfl (by decide) ⟨by omega, by show _ < (3612 : Int); omega⟩ ?_
    refine v_iinc rfl rfl rfl (by omega) rfl ?_
    refine v_goto rfl ?_
    refine ih (j + 1) _ (by omega) (by omega) (by rw [u_n2 (by omega)]; exact h1) (fun i hi => ?_) (fun b i hb => ?_)
    · by_cases e : i = j
      · subst e; rw [u_eq]
      · rw [u_n2 (by omega)]; exact h2 i (by omega)
    · have h3 : ¬ (b = 125 ∧ i = 301 * (k : Int) + 1 + (j : Int)) := fun z => by have := hb z.1; omega
      simp only [z_upd]
      rw [if_neg h3]
      exact ho b i hb
theorem R_wr125 {k : Nat} (hk : k < 12) (hX : RX t M) (kk : ∀ M', SL 125 M' k t → (∀ b j, (b = 125 → j < 301 * (k : Int) ∨ 301 * (k : Int) + 300 < j) → M' b j = M b j) → Q none M') : v_call L d 231 [(2, 77), (2, 125), (0, (k : Int))] M Q := by
  refine v_in ?_
  refine v_load rfl rfl ⟨rfl, Nat.le_of_ble_eq_true rfl⟩ ?_
  refine v_push rfl ?_
  refine v_load rfl rfl ⟨rfl, Nat.le_of_ble_eq_true rfl⟩ ?_
  refine v_mul rfl (by omega) ?_
  refine v_load rfl rfl ⟨rfl, Nat.le_of_ble_eq_true rfl⟩ ?_
  refine v_getx rfl rfl (hX.1) ?_
  refine v_ast9 rfl rfl (by decide) ⟨by omega, by show _ < (3612 : Int); omega⟩ ?_
  refine v_push rfl ?_
  refine v_store rfl ⟨rfl, Nat.le_of_ble_eq_true rfl, Nat.le_of_ble_eq_true rfl, rfl⟩ rfl ?_
  have o : ∀ b j, (b = 125 → j < 301 * (k : Int) ∨ 301 * (k : Int) + 300 < j) → z_upd M 125 (301 * (k : Int)) (t.length : Int) b j = M b j := fun b j hb => by
    have h3 : ¬ (b = 125 ∧ j = 301 * (k : Int)) := fun z => by have := hb z.1; omega
    simp only [z_upd]
    rw [if_neg h3]
  have hX1 : RX t (z_upd M 125 (301 * (k : Int)) (t.length : Int)) := RX_fr hX (o 77 4 (by omega)) (fun j => o 79 j (by omega))
  exact R_wr125_loop hk _ hX1 (fun M' a1 a2 => kk M' a1 (fun b j hb => (a2 b j hb).trans (o b j hb))) _ 0 _ rfl (Nat.zero_le _) u_eq (fun i hi => absurd hi (Nat.not_lt_zero _)) (fun _ _ _ => rfl)
theorem R_rd125_loop {k : Nat} (hk : k < 12) (M0 : zM) (hS : SL 125 M0 k t) (hl : t.length ≤ 300) (h4 : M0 77 4 = (t.length : Int)) (kk : ∀ M', RX t M' → (∀ b j, b ≠ 79 → M' b j = M0 b j) → Q none M') : ∀ (n j : Nat) (Mc : zM), n = t.length - j → j ≤ t.length → (∀ i, i < j → Mc 79 (i : Int) = t.getD i 0) → (∀ b j, b ≠ 79 → Mc b j = M0 b j) → v_wp L d 232 13 [(2, 77), (2, 125), (0, (k : Int)), (0, (j : Int))] [] Mc Q := by
  intro n
  induction n with
  | zero =>
    intro j Mc hn hj h2 ho
    have ej : j = t.length := by omega
    subst ej
    have p : Mc 77 4 = (t.length : Int) := (ho 77 4 (by decide)).trans h4
    refine v_load rfl rfl ⟨rfl, Nat.le_of_ble_eq_true rfl⟩ ?_
    refine v_load rfl rfl ⟨rfl, Nat.le_of_ble_eq_true rfl⟩ ?_
    refine v_getx rfl rfl (p) ?_
    refine v_ige rfl (fun _ => ?_) (fun h => absurd h (by omega))
    refine v_ret rfl rfl ?_
    exact kk Mc ⟨p, hl, h2⟩ ho
  | succ n ih =>
    intro j Mc hn hj h2 ho
    have p : Mc 77 4 = (t.length : Int) := (ho 77 4 (by decide)).trans h4
    have q : Mc 125 (301 * (k : Int) + 1 + (j : Int)) = t.getD j 0 := (ho 125 _ (by decide)).trans (hS.2 j (by omega))
    refine v_load rfl rfl ⟨rfl, Nat.le_of_ble_eq_true rfl⟩ ?_
    refine v_load rfl rfl ⟨rfl, Nat.le_of_ble_eq_true rfl⟩ ?_
    refine v_getx rfl rfl (p) ?_
    refine v_ige rfl (fun h => absurd h (by omega)) (fun _ => ?_)
    refine v_load rfl rfl ⟨rfl, Nat.le_of_ble_eq_true rfl⟩ ?_
    refine v_getp rfl rfl rfl ?_
    refine v_load rfl rfl ⟨rfl, Nat.le_of_ble_eq_true rfl⟩ ?_
    refine v_load rfl rfl ⟨rfl, Nat.le_of_ble_eq_true rfl⟩ ?_
    refine v_push rfl ?_
    refine v_load rfl rfl ⟨rfl, Nat.le_of_ble_eq_true rfl⟩ ?_
    refine v_mul rfl (by omega) ?_
    refine v_push rfl ?_
    refine v_add rfl (by omega) ?_
    refine v_load rfl rfl ⟨rfl, Nat.le_of_ble_eq_true rfl⟩ ?_
    refine v_add rfl (by omega) ?_
    refine v_ald9 rfl rfl ⟨by omega, by show _ < (3612 : Int); omega⟩ ?_
    rw [q]
    refine v_ast9 rfl rfl (by decide) ⟨by omega, by show _ < (300 : Int); omega⟩ ?_
    refine v_iinc rfl rfl rfl (by omega) rfl ?_
    refine v_goto rfl ?_
    refine ih (j + 1) _ (by omega) (by omega) (fun i hi => ?_) (fun b i hb => by rw [u_n1 hb]; exact ho b i hb)
    by_cases e : i = j
    · subst e; rw [u_eq]
    · rw [u_n2 (by omega)]; exact h2 i (by omega)
theorem R_rd125 {k : Nat} (hk : k < 12) (hS : SL 125 M k t) (hl : t.length ≤ 300) (kk : ∀ M', RX t M' → (∀ b j, b ≠ 79 → (b = 77 → j ≠ 4) → M' b j = M b j) → Q none M') : v_call L d 232 [(2, 77), (2, 125), (0, (k : Int))] M Q := by
  have h1 := hS.1
  refine v_in ?_
  refine v_load rfl rfl ⟨rfl, Nat.le_of_ble_eq_true rfl⟩ ?_
  refine v_load rfl rfl ⟨rfl, Nat.le_of_ble_eq_true rfl⟩ ?_
  refine v_push rfl ?_
  refine v_load rfl rfl ⟨rfl, Nat.le_of_ble_eq_true rfl⟩ ?_
  refine v_mul rfl (by omega) ?_
  refine v_ald9 rfl rfl ⟨by omega, by show _ < (3612 : Int); omega⟩ ?_
  rw [h1]
  refine v_puti rfl rfl rfl ?_
  refine v_push rfl ?_
  refine v_store rfl ⟨rfl, Nat.le_of_ble_eq_true rfl, Nat.le_of_ble_eq_true rfl, rfl⟩ rfl ?_
  have o : ∀ b j, (b = 77 → j ≠ 4) → z_upd M 77 4 (t.length : Int) b j = M b j := fun b j hb => by
    have h3 : ¬ (b = 77 ∧ j = 4) := fun z => hb z.1 z.2
    simp only [z_upd]
    rw [if_neg h3]
  exact R_rd125_loop hk _ (SL_fr hS hl (fun j _ _ => o 125 j (by omega))) hl u_eq (fun M' a1 a2 => kk M' a1 (fun b j b1 b2 => (a2 b j b1).trans (o b j b2))) _ 0 _ rfl (Nat.zero_le _) (fun i hi => absurd hi (Nat.not_lt_zero _)) (fun _ _ _ => rfl)
theorem R_wr126_loop {k : Nat} (hk : k < 12) (M0 : zM) (hX : RX t M0) (kk : ∀ M', SL 126 M' k t → (∀ b j, (b = 126 → j < 301 * (k : Int) ∨ 301 * (k : Int) + 300 < j) → M' b j = M0 b j) → Q none M') : ∀ (n j : Nat) (Mc : zM), n = t.length - j → j ≤ t.length → Mc 126 (301 * (k : Int)) = (t.length : Int) → (∀ i, i < j → Mc 126 (301 * (k : Int) + 1 + (i : Int)) = t.getD i 0) → (∀ b j, (b = 126 → j < 301 * (k : Int) ∨ 301 * (k : Int) + 300 < j) → Mc b j = M0 b j) → v_wp L d 231 13 [(2, 77), (2, 126), (0, (k : Int)), (0, (j : Int))] [] Mc Q := by
  intro n
  have hl := hX.2.1
  induction n with
  | zero =>
    intro j Mc hn hj h1 h2 ho
    have ej : j = t.length := by omega
    subst ej
    have p : Mc 77 4 = (t.length : Int) := (ho 77 4 (by omega)).trans hX.1
    refine v_load rfl rfl ⟨rfl, Nat.le_of_ble_eq_true rfl⟩ ?_
    refine v_load rfl rfl ⟨rfl, Nat.le_of_ble_eq_true rfl⟩ ?_
    refine v_getx rfl rfl (p) ?_
    refine v_ige rfl (fun _ => ?_) (fun h => absurd h (by omega))
    refine v_ret rfl rfl ?_
    exact kk Mc ⟨h1, h2⟩ ho
  | succ n ih =>
    intro j Mc hn hj h1 h2 ho
    have p : Mc 77 4 = (t.length : Int) := (ho 77 4 (by omega)).trans hX.1
    have q : Mc 79 (j : Int) = t.getD j 0 := (ho 79 _ (by omega)).trans (hX.2.2 j (by omega))
    refine v_load rfl rfl ⟨rfl, Nat.le_of_ble_eq_true rfl⟩ ?_
    refine v_load rfl rfl ⟨rfl, Nat.le_of_ble_eq_true rfl⟩ ?_
    refine v_getx rfl rfl (p) ?_
    refine v_ige rfl (fun h => absurd h (by omega)) (fun _ => ?_)
    refine v_load rfl rfl ⟨rfl, Nat.le_of_ble_eq_true rfl⟩ ?_
    refine v_push rfl ?_
    refine v_load rfl rfl ⟨rfl, Nat.le_of_ble_eq_true rfl⟩ ?_
    refine v_mul rfl (by omega) ?_
    refine v_push rfl ?_
    refine v_add rfl (by omega) ?_
    refine v_load rfl rfl ⟨rfl, Nat.le_of_ble_eq_true rfl⟩ ?_
    refine v_add rfl (by omega) ?_
    refine v_load rfl rfl ⟨rfl, Nat.le_of_ble_eq_true rfl⟩ ?_
    refine v_getp rfl rfl rfl ?_
    refine v_load rfl rfl ⟨rfl, Nat.le_of_ble_eq_true rfl⟩ ?_
    refine v_ald9 rfl rfl ⟨by omega, by show _ < (300 : Int); omega⟩ ?_
    rw [q]
    refine v_ast9 rfl rfl (by decide) ⟨by omega, by show _ < (3612 : Int); omega⟩ ?_
    refine v_iinc rfl rfl rfl (by omega) rfl ?_
    refine v_goto rfl ?_
    refine ih (j + 1) _ (by omega) (by omega) (by rw [u_n2 (by omega)]; exact h1) (fun i hi => ?_) (fun b i hb => ?_)
    · by_cases e : i = j
      · subst e; rw [u_eq]
      · rw [u_n2 (by omega)]; exact h2 i (by omega)
    · have h3 : ¬ (b = 126 ∧ i = 301 * (k : Int) + 1 + (j : Int)) := fun z => by have := hb z.1; omega
      simp only [z_upd]
      rw [if_neg h3]
      exact ho b i hb
theorem R_wr126 {k : Nat} (hk : k < 12) (hX : RX t M) (kk : ∀ M', SL 126 M' k t → (∀ b j, (b = 126 → j < 301 * (k : Int) ∨ 301 * (k : Int) + 300 < j) → M' b j = M b j) → Q none M') : v_call L d 231 [(2, 77), (2, 126), (0, (k : Int))] M Q := by
  refine v_in ?_
  refine v_load rfl rfl ⟨rfl, Nat.le_of_ble_eq_true rfl⟩ ?_
  refine v_push rfl ?_
  refine v_load rfl rfl ⟨rfl, Nat.le_of_ble_eq_true rfl⟩ ?_
  refine v_mul rfl (by omega) ?_
  refine v_load rfl rfl ⟨rfl, Nat.le_of_ble_eq_true rfl⟩ ?_
  refine v_getx rfl rfl (hX.1) ?_
  refine v_ast9 rfl rfl (by decide) ⟨by omega, by show _ < (3612 : Int); omega⟩ ?_
  refine v_push rfl ?_
  refine v_store rfl ⟨rfl, Nat.le_of_ble_eq_true rfl, Nat.le_of_ble_eq_true rfl, rfl⟩ rfl ?_
  have o : ∀ b j, (b = 126 → j < 301 * (k : Int) ∨ 301 * (k : Int) + 300 < j) → z_upd M 126 (301 * (k : Int)) (t.length : Int) b j = M b j := fun b j hb => by
    have h3 : ¬ (b = 126 ∧ j = 301 * (k : Int)) := fun z => by have := hb z.1; omega
    simp only [z_upd]
    rw [if_neg h3]
  have hX1 : RX t (z_upd M 126 (301 * (k : Int)) (t.length : Int)) := RX_fr hX (o 77 4 (by omega)) (fun j => o 79 j (by omega))
  exact R_wr126_loop hk _ hX1 (fun M' a1 a2 => kk M' a1 (fun b j hb => (a2 b j hb).trans (o b j hb))) _ 0 _ rfl (Nat.zero_le _) u_eq (fun i hi => absurd hi (Nat.not_lt_zero _)) (fun _ _ _ => rfl)
theorem R_rd126_loop {k : Nat} (hk : k < 12) (M0 : zM) (hS : SL 126 M0 k t) (hl : t.length ≤ 300) (h4 : M0 77 4 = (t.length : Int)) (kk : ∀ M', RX t M' → (∀ b j, b ≠ 79 → M' b j = M0 b j) → Q none M') : ∀ (n j : Nat) (Mc : zM), n = t.length - j → j ≤ t.length → (∀ i, i < j → Mc 79 (i : Int) = t.getD i 0) → (∀ b j, b ≠ 79 → Mc b j = M0 b j) → v_wp L d 232 13 [(2, 77), (2, 126), (0, (k : Int)), (0, (j : Int))] [] Mc Q := by
  intro n
  induction n with
  | zero =>
    intro j Mc hn hj h2 ho
    have ej : j = t.length := by omega
    subst ej
    have p : Mc 77 4 = (t.length : Int) := (ho 77 4 (by decide)).trans h4
    refine v_load rfl rfl ⟨rfl, Nat.le_of_ble_eq_true rfl⟩ ?_
    refine v_load rfl rfl ⟨rfl, Nat.le_of_ble_eq_true rfl⟩ ?_
    refine v_getx rfl rfl (p) ?_
    refine v_ige rfl (fun _ => ?_) (fun h => absurd h (by omega))
    refine v_ret rfl rfl ?_
    exact kk Mc ⟨p, hl, h2⟩ ho
  | succ n ih =>
    intro j Mc hn hj h2 ho
    have p : Mc 77 4 = (t.length : Int) := (ho 77 4 (by decide)).trans h4
    have q : Mc 126 (301 * (k : Int) + 1 + (j : Int)) = t.getD j 0 := (ho 126 _ (by decide)).trans (hS.2 j (by omega))
    refine v_load rfl rfl ⟨rfl, Nat.le_of_ble_eq_true rfl⟩ ?_
    refine v_load rfl rfl ⟨rfl, Nat.le_of_ble_eq_true rfl⟩ ?_
    refine v_getx rfl rfl (p) ?_
    refine v_ige rfl (fun h => absurd h (by omega)) (fun _ => ?_)
    refine v_load rfl rfl ⟨rfl, Nat.le_of_ble_eq_true rfl⟩ ?_
    refine v_getp rfl rfl rfl ?_
    refine v_load rfl rfl ⟨rfl, Nat.le_of_ble_eq_true rfl⟩ ?_
    refine v_load rfl rfl ⟨rfl, Nat.le_of_ble_eq_true rfl⟩ ?_
    refine v_push rfl ?_
    refine v_load rfl rfl ⟨rfl, Nat.le_of_ble_eq_true rfl⟩ ?_
    refine v_mul rfl (by omega) ?_
    refine v_push rfl ?_
    refine v_add rfl (by omega) ?_
    refine v_load rfl rfl ⟨rfl, Nat.le_of_ble_eq_true rfl⟩ ?_
    refine v_add rfl (by omega) ?_
    refine v_ald9 rfl rfl ⟨by omega, by show _ < (3612 : Int); omega⟩ ?_
    rw [q]
    refine v_ast9 rfl rfl (by decide) ⟨by omega, by show _ < (300 : Int); omega⟩ ?_
    refine v_iinc rfl rfl rfl (by omega) rfl ?_
    refine v_goto rfl ?_
    refine ih (j + 1) _ (by omega) (by omega) (fun i hi => ?_) (fun b i hb => by rw [u_n1 hb]; exact ho b i hb)
    by_cases e : i = j
    · subst e; rw [u_eq]
    · rw [u_n2 (by omega)]; exact h2 i (by omega)
theorem R_rd126 {k : Nat} (hk : k < 12) (hS : SL 126 M k t) (hl : t.length ≤ 300) (kk : ∀ M', RX t M' → (∀ b j, b ≠ 79 → (b = 77 → j ≠ 4) → M' b j = M b j) → Q none M') : v_call L d 232 [(2, 77), (2, 126), (0, (k : Int))] M Q := by
  have h1 := hS.1
  refine v_in ?_
  refine v_load rfl rfl ⟨rfl, Nat.le_of_ble_eq_true rfl⟩ ?_
  refine v_load rfl rfl ⟨rfl, Nat.le_of_ble_eq_true rfl⟩ ?_
  refine v_push rfl ?_
  refine v_load rfl rfl ⟨rfl, Nat.le_of_ble_eq_true rfl⟩ ?_
  refine v_mul rfl (by omega) ?_
  refine v_ald9 rfl rfl ⟨by omega, by show _ < (3612 : Int); omega⟩ ?_
  rw [h1]
  refine v_puti rfl rfl rfl ?_
  refine v_push rfl ?_
  refine v_store rfl ⟨rfl, Nat.le_of_ble_eq_true rfl, Nat.le_of_ble_eq_true rfl, rfl⟩ rfl ?_
  have o : ∀ b j, (b = 77 → j ≠ 4) → z_upd M 77 4 (t.length : Int) b j = M b j := fun b j hb => by
    have h3 : ¬ (b = 77 ∧ j = 4) := fun z => hb z.1 z.2
    simp only [z_upd]
    rw [if_neg h3]
  exact R_rd126_loop hk _ (SL_fr hS hl (fun j _ _ => o 126 j (by omega))) hl u_eq (fun M' a1 a2 => kk M' a1 (fun b j b1 b2 => (a2 b j b1).trans (o b j b2))) _ 0 _ rfl (Nat.zero_le _) (fun i hi => absurd hi (Nat.not_lt_zero _)) (fun _ _ _ => rfl)
theorem R_drops_loop (M0 : zM) (kk : ∀ M', (∀ j, 0 ≤ j → j < 3311 → M' 125 j = M0 125 (j + 301)) → (∀ b j, b ≠ 125 → M' b j = M0 b j) → Q none M') : ∀ (n : Nat) (j : Int) (Mc : zM), n = (3612 - j).toNat → 301 ≤ j → j ≤ 3612 → (∀ i, 0 ≤ i → i < j - 301 → Mc 125 i = M0 125 (i + 301)) → (∀ i, j - 301 ≤ i → Mc 125 i = M0 125 i) → (∀ b j, b ≠ 125 → Mc b j = M0 b j) → v_wp L d 233 4 [(2, 125), (0, j)] [] Mc Q := by
  intro n
  induction n with
  | zero =>
    intro j Mc hn h0 h1 h2 h3 ho
    have ej : j = 3612 := by omega
    subst ej
    refine v_load rfl rfl ⟨rfl, Nat.le_of_ble_eq_true rfl⟩ ?_
    refine v_push rfl ?_
    refine v_ige rfl (fun _ => ?_) (fun h => absurd h (by decide))
    refine v_ret rfl rfl ?_
    exact kk Mc (fun j j0 j1 => h2 j j0 (by omega)) ho
  | succ n ih =>
    intro j Mc hn h0 h1 h2 h3 ho
    have q := h3 j (by omega)
    refine v_load rfl rfl ⟨rfl, Nat.le_of_ble_eq_true rfl⟩ ?_
    refine v_push rfl ?_
    refine v_ige rfl (fun h => absurd h (by omega)) (fun _ => ?_)
    refine v_load rfl rfl ⟨rfl, Nat.le_of_ble_eq_true rfl⟩ ?_
    refine v_load rfl rfl ⟨rfl, Nat.le_of_ble_eq_true rfl⟩ ?_
    refine v_push rfl ?_
    refine v_sub rfl (by omega) ?_
    refine v_load rfl rfl ⟨rfl, Nat.le_of_ble_eq_true rfl⟩ ?_
    refine v_load rfl rfl ⟨rfl, Nat.le_of_ble_eq_true rfl⟩ ?_
    refine v_ald9 rfl rfl ⟨by omega, by show _ < (3612 : Int); omega⟩ ?_
    rw [q]
    refine v_ast9 rfl rfl (by decide) ⟨by omega, by show _ < (3612 : Int); omega⟩ ?_
    refine v_iinc rfl rfl rfl (by omega) rfl ?_
    refine v_goto rfl ?_
    refine ih (j + 1) _ (by omega) (by omega) (by omega) (fun i i0 i1 => ?_) (fun i i0 => by rw [u_n2 (by omega)]; exact h3 i (by omega)) (fun b i hb => by rw [u_n1 hb]; exact ho b i hb)
    by_cases e : i = j - 301
    · rw [e, u_eq, show j - 301 + 301 = j by omega]
    · rw [u_n2 e]; exact h2 i i0 (by omega)
theorem R_drops (kk : ∀ M', (∀ j, 0 ≤ j → j < 3311 → M' 125 j = M 125 (j + 301)) → (∀ b j, b ≠ 125 → M' b j = M b j) → Q none M') : v_call L d 233 [(2, 125)] M Q := by
  refine v_in ?_
  refine v_push rfl ?_
  refine v_store rfl ⟨rfl, Nat.le_of_ble_eq_true rfl, Nat.le_of_ble_eq_true rfl, rfl⟩ rfl ?_
  exact R_drops_loop M kk _ 301 M rfl (by decide) (by decide) (fun i i0 i1 => absurd i1 (by omega)) (fun _ _ => rfl) (fun _ _ _ => rfl)
theorem mem_getD {x : List (List Int)} {k : Nat} (h : k < x.length) : x.getD k [] ∈ x := by rw [List.getD_eq_getElem?_getD, List.getElem?_eq_getElem h]; exact List.getElem_mem h
theorem HRp_fr {M M' : zM} (h : HRp Pa M) (h1 : M' 77 65 = M 77 65) (h2 : ∀ j, M' 125 j = M 125 j) : HRp Pa M' := ⟨h1.trans h.1, fun k hk => SL_fr (h.2.1 k hk) (h.2.2.2 _ (mem_getD hk)) (fun j _ _ => h2 j), h.2.2⟩
theorem HRf_fr {M M' : zM} (h : HRf Fu M) (h1 : M' 77 66 = M 77 66) (h2 : ∀ j, M' 126 j = M 126 j) : HRf Fu M' := ⟨h1.trans h.1, fun k hk => SL_fr (h.2.1 k hk) (h.2.2.2 _ (mem_getD (by omega))) (fun j _ _ => h2 j), h.2.2⟩
/-- the text is noted -/
theorem R_notes (hH : HRp Pa M) (hX : RX t M) (kk : ∀ M', HRp (paA Pa t) M' → (∀ b j, b ≠ 125 → (b = 77 → j ≠ 65) → M' b j = M b j) → Q none M') : v_call L (d + 1) 234 [(2, 77)] M Q := by
  obtain ⟨h1, h2, h5, h6⟩ := hH
  have hl := hX.2.1
  have fin : ∀ (M1 : zM) (P1 : List (List Int)), (∀ b j, b ≠ 125 → (b = 77 → j ≠ 65) → M1 b j = M b j) → M1 77 65 = (P1.length : Int) → P1.length ≤ 11 → (∀ k, k < P1.length → SL 125 M1 k (P1.getD k [])) → (∀ x ∈ P1, x.length ≤ 300) → paA Pa t = P1 ++ [t] → v_wp L (d + 1) 234 22 [(2, 77)] [] M1 Q := by
    intro M1 P1 o1 e1 hl1 s1 x1 ep
    have hX1 : RX t M1 := RX_fr hX (o1 77 4 (by decide) (by decide)) (fun j => o1 79 j (by decide) (by omega))
    refine v_load rfl rfl ⟨rfl, Nat.le_of_ble_eq_true rfl⟩ ?_
    refine v_load rfl rfl ⟨rfl, Nat.le_of_ble_eq_true rfl⟩ ?_
    refine v_getp rfl rfl rfl ?_
    refine v_load rfl rfl ⟨rfl, Nat.le_of_ble_eq_true rfl⟩ ?_
    refine v_getx rfl rfl (e1) ?_
    refine v_callr rfl ⟨Nat.le_of_ble_eq_true rfl, Nat.le_of_ble_eq_true rfl, rfl, Nat.le_of_ble_eq_true rfl, rfl⟩ ?_
    refine R_wr125 (by omega) hX1 (fun M2 a2 o2 => ?_)
    refine v_load rfl rfl ⟨rfl, Nat.le_of_ble_eq_true rfl⟩ ?_
    refine v_load rfl rfl ⟨rfl, Nat.le_of_ble_eq_true rfl⟩ ?_
    refine v_getx rfl rfl (show _ = (P1.length : Int) by rw [o2 77 65 (by omega)]; exact e1) ?_
    refine v_push rfl ?_
    refine v_add rfl (by omega) ?_
    refine v_puti rfl rfl rfl ?_
    refine v_ret rfl rfl ?_
    have o3 : ∀ b j, b ≠ 125 → (b = 77 → j ≠ 65) → z_upd M2 77 65 ((P1.length : Int) + 1) b j = M b j := fun b j b1 b2 => by
      have h3 : ¬ (b = 77 ∧ j = 65) := fun z => b2 z.1 z.2
      simp only [z_upd]
      rw [if_neg h3, o2 b j (fun e => absurd e b1), o1 b j b1 b2]
    refine kk _ ?_ o3
    rw [ep]
    have el : (P1 ++ [t]).length = P1.length + 1 := by simp
    refine ⟨by rw [u_eq, el]; omega, fun k hk => ?_, by omega, fun x hx => ?_⟩
    · by_cases e : k = P1.length
      · subst e
        rw [show (P1 ++ [t]).getD P1.length [] = t by simp]
        exact SL_fr a2 hl (fun j _ _ => u_n1 (by decide))
      · have hk' : k < P1.length := by omega
        have e2 : (P1 ++ [t]).getD k [] = P1.getD k [] := by rw [List.getD_eq_getElem?_getD, List.getD_eq_getElem?_getD, List.getElem?_append_left hk']
        rw [e2]
        exact SL_fr (s1 k hk') (x1 _ (mem_getD hk')) (fun j j1 j2 => by rw [u_n1 (by decide), o2 125 j (fun _ => by omega)])
    · rcases List.mem_append.mp hx with hx | hx
      · exact x1 x hx
      · rw [List.mem_singleton.mp hx]; exact hl
  refine v_in ?_
  by_cases c : Pa.length = 12
  · have ep : paA Pa t = Pa.drop 1 ++ [t] := by unfold paA; rw [if_pos c]
    refine v_load rfl rfl ⟨rfl, Nat.le_of_ble_eq_true rfl⟩ ?_
    refine v_getx rfl rfl (h1) ?_
    refine v_push rfl ?_
    refine v_ine rfl (fun h => absurd h (by omega)) (fun _ => ?_)
    refine v_load rfl rfl ⟨rfl, Nat.le_of_ble_eq_true rfl⟩ ?_
    refine v_getp rfl rfl rfl ?_
    refine v_callr rfl ⟨Nat.le_of_ble_eq_true rfl, Nat.le_of_ble_eq_true rfl, rfl, Nat.le_of_ble_eq_true rfl, rfl⟩ ?_
    refine R_drops (fun M1 a1 o1 => ?_)
    refine v_load rfl rfl ⟨rfl, Nat.le_of_ble_eq_true rfl⟩ ?_
    refine v_push rfl ?_
    refine v_puti rfl rfl rfl ?_
    refine fin _ (Pa.drop 1) (fun b j b1 b2 => ?_) (by rw [u_eq]; simp; omega) (by simp; omega) (fun k hk => ?_) (fun x hx => h6 x (List.mem_of_mem_drop hx)) ep
    · have h3 : ¬ (b = 77 ∧ j = 65) := fun z => b2 z.1 z.2
      simp only [z_upd]
      rw [if_neg h3, o1 b j b1]
    · have hk' : k < 11 := by simp at hk; omega
      have e2 : (Pa.drop 1).getD k [] = Pa.getD (k + 1) [] := by rw [List.getD_eq_getElem?_getD, List.getD_eq_getElem?_getD, List.getElem?_drop, Nat.add_comm]
      rw [e2]
      have hx := h6 _ (mem_getD (show k + 1 < Pa.length by omega))
      have hs := h2 (k + 1) (by omega)
      refine ⟨?_, fun i hi => ?_⟩
      · rw [u_n1 (by decide), a1 _ (by omega) (by omega), show 301 * (k : Int) + 301 = 301 * ((k + 1 : Nat) : Int) by omega]
        exact hs.1
      · rw [u_n1 (by decide), a1 _ (by omega) (by omega), show 301 * (k : Int) + 1 + (i : Int) + 301 = 301 * ((k + 1 : Nat) : Int) + 1 + (i : Int) by omega]
        exact hs.2 i hi
  · have ep : paA Pa t = Pa ++ [t] := by unfold paA; rw [if_neg c]
    refine v_load rfl rfl ⟨rfl, Nat.le_of_ble_eq_true rfl⟩ ?_
    refine v_getx rfl rfl (h1) ?_
    refine v_push rfl ?_
    refine v_ine rfl (fun _ => ?_) (fun h => absurd h (by omega))
    exact fin M Pa (fun _ _ _ _ => rfl) h1 (by omega) h2 h6 ep
/-- an act: noted, nothing can be done again -/
theorem R_act (hH : HRp Pa M) (hX : RX t M) (kk : ∀ M', HRp (paA Pa t) M' → HRf [] M' → (∀ b j, b ≠ 125 → (b = 77 → j ≠ 65 ∧ j ≠ 66) → M' b j = M b j) → Q none M') : v_call L (d + 2) 235 [(2, 77)] M Q := by
  refine v_in ?_
  refine v_load rfl rfl ⟨rfl, Nat.le_of_ble_eq_true rfl⟩ ?_
  refine v_callr rfl ⟨Nat.le_of_ble_eq_true rfl, Nat.le_of_ble_eq_true rfl, rfl, Nat.le_of_ble_eq_true rfl, rfl⟩ ?_
  refine R_notes hH hX (fun M1 a1 o1 => ?_)
  refine v_load rfl rfl ⟨rfl, Nat.le_of_ble_eq_true rfl⟩ ?_
  refine v_push rfl ?_
  refine v_puti rfl rfl rfl ?_
  refine v_ret rfl rfl ?_
  refine kk _ (HRp_fr a1 (u_n2 (by decide)) (fun j => u_n1 (by decide))) ⟨u_eq, fun k hk => absurd hk (Nat.not_lt_zero _), Nat.zero_le _, fun x hx => absurd hx List.not_mem_nil⟩ (fun b j b1 b2 => ?_)
  have h3 : ¬ (b = 77 ∧ j = 66) := fun z => (b2 z.1).2 z.2
  simp only [z_upd]
  rw [if_neg h3, o1 b j b1 (fun e => (b2 e).1)]
end RH
