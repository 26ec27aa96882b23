/-! THE REFERENCE CARRIES OUT EDITS: methods 236 to 238 -/
def RFr (fr : List Int) (M : zM) : Prop := M 77 5 = (fr.length : Int) ∧ fr.length ≤ 301 ∧ ∀ i : Nat, i < fr.length → M 80 (i : Int) = fr.getD i 0
/-- what bytes that come may change -/
def oF (M M' : zM) : Prop := ∀ b j, b ≠ 80 → (b = 77 → j ≠ 5) → M' b j = M b j
theorem oF_rf {M : zM} : oF M M := fun _ _ _ _ => rfl
theorem oF_tr {M M1 M2 : zM} (h : oF M M1) (h2 : oF M1 M2) : oF M M2 := fun b j a1 a2 => (h2 b j a1 a2).trans (h b j a1 a2)
/-- bytes of a text from a to b less 1 -/
def sub (t : List Int) (a b : Int) : List Int := (t.take b.toNat).drop a.toNat
theorem sub_len {t : List Int} {a b : Int} (h : 0 ≤ a ∧ a ≤ b ∧ b ≤ (t.length : Int)) : ((sub t a b).length : Int) = b - a := by
  unfold sub
  rw [List.length_drop, List.length_take]
  omega
theorem sub_at {t : List Int} {a b : Int} (h : 0 ≤ a ∧ b ≤ (t.length : Int)) {i : Nat} (hi : a + (i : Int) < b) : (sub t a b).getD i 0 = t.getD (a.toNat + i) 0 := by
  unfold sub
  rw [List.getD_eq_getElem?_getD, List.getD_eq_getElem?_getD, List.getElem?_drop, List.getElem?_take, if_pos (by omega)]
theorem sub_nil {t : List Int} {a b : Int} (h : b ≤ a) : sub t a b = [] := by
  unfold sub
  exact List.drop_eq_nil_of_le (by rw [List.length_take]; omega)
theorem sub_snoc {t : List Int} {a b : Int} (h : 0 ≤ a ∧ a ≤ b ∧ b < (t.length : Int)) : sub t a (b + 1) = sub t a b ++ [t.getD b.toNat 0] := by
  unfold sub
  rw [show (b + 1).toNat = b.toNat + 1 by omega, List.take_succ, List.drop_append_of_le_length (by rw [List.length_take]; omega), List.getElem?_eq_getElem (show b.toNat < t.length by omega), List.getD_eq_getElem?_getD, List.getElem?_eq_getElem (show b.toNat < t.length by omega)]
  rfl
section RE2
variable {L d : Nat} {M : zM} {Q : Option zV → zM → Prop} {t fr tp : List Int} {Pa Fu : List (List Int)}
theorem R_comes {x : Int} (hF : RFr fr M) (hl : fr.length < 301) (k : ∀ M', RFr (fr ++ [x]) M' → oF M M' → Q none M') : v_call L d 236 [(2, 77), (0, x)] M Q := by
  obtain ⟨h1, h2, h3⟩ := hF
  refine v_in ?_
  refine v_load rfl rfl ⟨rfl, Nat.le_of_ble_eq_true rfl⟩ ?_
  refine v_getp rfl rfl rfl ?_
  refine v_load rfl rfl ⟨rfl, Nat.le_of_ble_eq_true rfl⟩ ?_
  refine v_getx rfl rfl (h1) ?_
  refine v_load rfl rfl ⟨rfl, Nat.le_of_ble_eq_true rfl⟩ ?_
  refine v_ast9 rfl rfl (by decide) ⟨by omega, by show _ < (301 : Int); omega⟩ ?_
  refine v_load rfl rfl ⟨rfl, Nat.le_of_ble_eq_true rfl⟩ ?_
  refine v_load rfl rfl ⟨rfl, Nat.le_of_ble_eq_true rfl⟩ ?_
  refine v_getx rfl rfl (show _ = (fr.length : Int) by rw [u_n1 (by decide)]; exact h1) ?_
  refine v_push rfl ?_
  refine v_add rfl (by omega) ?_
  refine v_puti rfl rfl rfl ?_
  refine v_ret rfl rfl ?_
  have hll : (fr ++ [x]).length = fr.length + 1 := by simp
  refine k _ ⟨by rw [u_eq, hll]; omega, by omega, fun i hi => ?_⟩ (fun b j b1 b2 => ?_)
  · rw [u_n1 (by decide)]
    by_cases e : i = fr.length
    · subst e; rw [u_eq, g_app2]
    · rw [u_n2 (by omega), g_app1 (by omega)]; exact h3 i (by omega)
  · have h3 : ¬ (b = 77 ∧ j = 5) := fun z => b2 z.1 z.2
    simp only [z_upd]
    rw [if_neg h3, if_neg (by omega)]
theorem R_comeText_loop {a b : Int} (M0 : zM) (hX : RX t M0) (hab : 0 ≤ a ∧ b ≤ (t.length : Int)) (k : ∀ M', RFr (fr ++ sub t a b) M' → oF M0 M' → Q none M') : ∀ (n : Nat) (j : Int) (Mc : zM), n = (b - j).toNat → a ≤ j → (j ≤ b ∨ b ≤ a ∧ j = a) → (fr.length : Int) + (b - a) ≤ 301 → RFr (fr ++ sub t a j) Mc → oF M0 Mc → v_wp L (d + 1) 237 2 [(2, 77), (0, a), (0, b), (0, j)] [] Mc Q := by
  intro n
  have hxl := hX.2.1
  induction n with
  | zero =>
    intro j Mc hn h0 h1 hl hF ho
    have e : sub t a j = sub t a b := by
      by_cases c : b ≤ a
      · rw [sub_nil c, sub_nil (by omega)]
      · rw [show j = b by omega]
    rw [e] at hF
    refine v_load rfl rfl ⟨rfl, Nat.le_of_ble_eq_true rfl⟩ ?_
    refine v_load rfl rfl ⟨rfl, Nat.le_of_ble_eq_true rfl⟩ ?_
    refine v_ige rfl (fun _ => ?_) (fun h => absurd h (by omega))
    refine v_ret rfl rfl ?_
    exact k Mc hF ho
  | succ n ih =>
    intro j Mc hn h0 h1 hl hF ho
    have hjb : j < b := by omega
    have q : Mc 79 j = t.getD j.toNat 0 := by
      rw [ho 79 j (by decide) (by omega)]
      have := hX.2.2 j.toNat (by omega)
      rw [show ((j.toNat : Nat) : Int) = j by omega] at this
      exact this
    have hsl := sub_len (t := t) (a := a) (b := j) ⟨hab.1, h0, by omega⟩
    refine v_load rfl rfl ⟨rfl, Nat.le_of_ble_eq_true rfl⟩ ?_
    refine v_load rfl rfl ⟨rfl, Nat.le_of_ble_eq_true rfl⟩ ?_
    refine v_ige rfl (fun h => absurd h (by omega)) (fun _ => ?_)
    refine v_load rfl rfl ⟨rfl, Nat.le_of_ble_eq_true rfl⟩ ?_
    refine v_load rfl rfl ⟨rfl, Nat.le_of_ble_eq_true rfl⟩ ?_
    refine v_getp rfl rfl rfl ?_
    refine v_load rfl rfl ⟨rfl, Nat.le_of_ble_eq_true rfl⟩ ?_
    refine v_ald9 rfl rfl ⟨by omega, by show _ < (300 : Int); omega⟩ ?_
    rw [q]
    refine v_callr rfl ⟨Nat.le_of_ble_eq_true rfl, Nat.le_of_ble_eq_true rfl, rfl, Nat.le_of_ble_eq_true rfl, rfl⟩ ?_
    refine R_comes hF (by rw [List.length_append]; omega) (fun M1 f1 o1 => ?_)
    refine v_iinc rfl rfl rfl (by omega) rfl ?_
    refine v_goto rfl ?_
    refine ih (j + 1) M1 (by omega) (by omega) (by omega) hl ?_ (oF_tr ho o1)
    rw [sub_snoc ⟨hab.1, h0, by omega⟩, ← List.append_assoc]
    exact f1
theorem R_comeText {a b : Int} (hF : RFr fr M) (hX : RX t M) (hab : 0 ≤ a ∧ b ≤ (t.length : Int)) (hl : (fr.length : Int) + (b - a) ≤ 301) (k : ∀ M', RFr (fr ++ sub t a b) M' → oF M M' → Q none M') : v_call L (d + 1) 237 [(2, 77), (0, a), (0, b)] M Q := by
  refine v_in ?_
  refine v_load rfl rfl ⟨rfl, Nat.le_of_ble_eq_true rfl⟩ ?_
  refine v_store rfl ⟨rfl, Nat.le_of_ble_eq_true rfl, Nat.le_of_ble_eq_true rfl, rfl⟩ rfl ?_
  exact R_comeText_loop M hX hab k _ a M rfl (Int.le_refl _) (by omega) hl (by rw [sub_nil (Int.le_refl _), List.append_nil]; exact hF) oF_rf
/-- the text behind an EDIT -/
def edT (t fr : List Int) (a b : Int) : List Int := t.take a.toNat ++ fr ++ t.drop b.toNat
theorem edT_len {a b : Int} (h : 0 ≤ a ∧ a ≤ b ∧ b ≤ (t.length : Int)) : ((edT t fr a b).length : Int) = (t.length : Int) + ((fr.length : Int) - (b - a)) := by
  unfold edT
  rw [List.length_append, List.length_append, List.length_take, List.length_drop]
  omega
theorem edT_at {a b : Int} (h : 0 ≤ a ∧ a ≤ b ∧ b ≤ (t.length : Int)) {i : Nat} : (edT t fr a b).getD i 0 = if (i : Int) < a then t.getD i 0 else if (i : Int) < a + (fr.length : Int) then fr.getD (i - a.toNat) 0 else t.getD ((i : Int) - ((fr.length : Int) - (b - a))).toNat 0 := by
  have hl : (t.take a.toNat).length = a.toNat := by rw [List.length_take]; omega
  unfold edT
  by_cases c1 : (i : Int) < a
  · rw [if_pos c1, List.getD_eq_getElem?_getD, List.append_assoc, List.getElem?_append_left (by omega), List.getElem?_take, if_pos (by omega), List.getD_eq_getElem?_getD]
  · rw [if_neg c1]
    by_cases c2 : (i : Int) < a + (fr.length : Int)
    · rw [if_pos c2, List.getD_eq_getElem?_getD, List.getElem?_append_left (by rw [List.length_append]; omega), List.getElem?_append_right (by omega), hl, List.getD_eq_getElem?_getD]
    · rw [if_neg c2, List.getD_eq_getElem?_getD, List.getElem?_append_right (by rw [List.length_append]; omega), List.length_append, hl, List.getElem?_drop, List.getD_eq_getElem?_getD, show b.toNat + (i - (a.toNat + fr.length)) = ((i : Int) - ((fr.length : Int) - (b - a))).toNat by omega]
/-- the bytes behind go on -/
theorem R_up_loop {a b more : Int} (M0 : zM) (h4 : M0 77 4 = (t.length : Int)) (hb : 0 ≤ b ∧ b ≤ (t.length : Int)) (hm : 0 < more ∧ (t.length : Int) + more ≤ 300) (k : ∀ M', (∀ i, b ≤ i → i < (t.length : Int) → M' 79 (i + more) = M0 79 i) → (∀ i, i < b + more → M' 79 i = M0 79 i) → (∀ c j, c ≠ 79 → M' c j = M0 c j) → ∀ w, v_wp L d 238 57 [(2, 77), (0, a), (0, b), (0, more), w] [] M' Q) : ∀ (n : Nat) (j : Int) (Mc : zM), n = (j - b + 1).toNat → b - 1 ≤ j → j < (t.length : Int) → (∀ i, j < i → i < (t.length : Int) → Mc 79 (i + more) = M0 79 i) → (∀ i, i < j + 1 + more → Mc 79 i = M0 79 i) → (∀ c j, c ≠ 79 → Mc c j = M0 c j) → v_wp L d 238 29 [(2, 77), (0, a), (0, b), (0, more), (0, j)] [] Mc Q := by
  intro n
  induction n with
  | zero =>
    intro j Mc hn h0 h1 h2 h3 ho
    have ej : j = b - 1 := by omega
    subst ej
    refine v_load rfl rfl ⟨rfl, Nat.le_of_ble_eq_true rfl⟩ ?_
    refine v_load rfl rfl ⟨rfl, Nat.le_of_ble_eq_true rfl⟩ ?_
    refine v_ilt rfl (fun _ => ?_) (fun h => absurd h (by omega))
    exact k Mc (fun i i1 i2 => h2 i (by omega) i2) (fun i hi => h3 i (by omega)) ho _
  | succ n ih =>
    intro j Mc hn h0 h1 h2 h3 ho
    have q := h3 j (by omega)
    refine v_load rfl rfl ⟨rfl, Nat.le_of_ble_eq_true rfl⟩ ?_
    refine v_load rfl rfl ⟨rfl, Nat.le_of_ble_eq_true rfl⟩ ?_
    refine v_ilt rfl (fun h => absurd h (by omega)) (fun _ => ?_)
    refine v_load rfl rfl ⟨rfl, Nat.le_of_ble_eq_true rfl⟩ ?_
    refine v_getp rfl rfl rfl ?_
    refine v_load rfl rfl ⟨rfl, Nat.le_of_ble_eq_true rfl⟩ ?_
    refine v_load rfl rfl ⟨rfl, Nat.le_of_ble_eq_true rfl⟩ ?_
    refine v_add rfl (by omega) ?_
    refine v_load rfl rfl ⟨rfl, Nat.le_of_ble_eq_true rfl⟩ ?_
    refine v_getp rfl rfl rfl ?_
    refine v_load rfl rfl ⟨rfl, Nat.le_of_ble_eq_true rfl⟩ ?_
    refine v_ald9 rfl rfl ⟨by omega, by show _ < (300 : Int); omega⟩ ?_
    rw [q]
    refine v_ast9 rfl rfl (by decide) ⟨by omega, by show _ < (300 : Int); omega⟩ ?_
    refine v_iinc rfl rfl rfl (by omega) rfl ?_
    refine v_goto rfl ?_
    rw [show j + -1 = j - 1 by omega]
    refine ih (j - 1) _ (by omega) (by omega) (by omega) (fun i i1 i2 => ?_) (fun i hi => by rw [u_n2 (by omega)]; exact h3 i (by omega)) (fun c i hc => by rw [u_n1 hc]; exact ho c i hc)
    by_cases e : i = j
    · rw [e, u_eq]
    · rw [u_n2 (by omega)]; exact h2 i (by omega) i2
/-- .. or come back -/
theorem R_dn_loop {a b more : Int} (M0 : zM) (h4 : M0 77 4 = (t.length : Int)) (hl : t.length ≤ 300) (hb : 0 ≤ b ∧ b ≤ (t.length : Int)) (hm : more < 0 ∧ 0 ≤ b + more) (k : ∀ M', (∀ i, b ≤ i → i < (t.length : Int) → M' 79 (i + more) = M0 79 i) → (∀ i, i < b + more → M' 79 i = M0 79 i) → (∀ c j, c ≠ 79 → M' c j = M0 c j) → ∀ w, v_wp L d 238 95 [(2, 77), (0, a), (0, b), (0, more), w] [] M' Q) : ∀ (n : Nat) (j : Int) (Mc : zM), n = ((t.length : Int) - j).toNat → b ≤ j → j ≤ (t.length : Int) → (∀ i, b ≤ i → i < j → Mc 79 (i + more) = M0 79 i) → (∀ i, i < b + more ∨ j + more ≤ i → Mc 79 i = M0 79 i) → (∀ c j, c ≠ 79 → Mc c j = M0 c j) → v_wp L d 238 64 [(2, 77), (0, a), (0, b), (0, more), (0, j)] [] Mc Q := by
  intro n
  induction n with
  | zero =>
    intro j Mc hn h0 h1 h2 h3 ho
    have ej : j = (t.length : Int) := by omega
    subst ej
    have p : Mc 77 4 = (t.length : Int) := (ho 77 4 (by decide)).trans h4
    refine v_load rfl rfl ⟨rfl, Nat.le_of_ble_eq_true rfl⟩ ?_
    refine v_load rfl rfl ⟨rfl, Nat.le_of_ble_eq_true rfl⟩ ?_
    refine v_getx rfl rfl (p) ?_
    refine v_ige rfl (fun _ => ?_) (fun h => absurd h (by omega))
    exact k Mc h2 (fun i hi => h3 i (Or.inl hi)) ho _
  | succ n ih =>
    intro j Mc hn h0 h1 h2 h3 ho
    have p : Mc 77 4 = (t.length : Int) := (ho 77 4 (by decide)).trans h4
    have q := h3 j (by omega)
    refine v_load rfl rfl ⟨rfl, Nat.le_of_ble_eq_true rfl⟩ ?_
    refine v_load rfl rfl ⟨rfl, Nat.le_of_ble_eq_true rfl⟩ ?_
    refine v_getx rfl rfl (p) ?_
    refine v_ige rfl (fun h => absurd h (by omega)) (fun _ => ?_)
    refine v_load rfl rfl ⟨rfl, Nat.le_of_ble_eq_true rfl⟩ ?_
    refine v_getp rfl rfl rfl ?_
    refine v_load rfl rfl ⟨rfl, Nat.le_of_ble_eq_true rfl⟩ ?_
    refine v_load rfl rfl ⟨rfl, Nat.le_of_ble_eq_true rfl⟩ ?_
    refine v_add rfl (by omega) ?_
    refine v_load rfl rfl ⟨rfl, Nat.le_of_ble_eq_true rfl⟩ ?_
    refine v_getp rfl rfl rfl ?_
    refine v_load rfl rfl ⟨rfl, Nat.le_of_ble_eq_true rfl⟩ ?_
    refine v_ald9 rfl rfl ⟨by omega, by show _ < (300 : Int); omega⟩ ?_
    rw [q]
    refine v_ast9 rfl rfl (by decide) ⟨by omega, by show _ < (300 : Int); omega⟩ ?_
    refine v_iinc rfl rfl rfl (by omega) rfl ?_
    refine v_goto rfl ?_
    refine ih (j + 1) _ (by omega) (by omega) (by omega) (fun i i1 i2 => ?_) (fun i hi => by rw [u_n2 (by omega)]; exact h3 i (by omega)) (fun c i hc => by rw [u_n1 hc]; exact ho c i hc)
    by_cases e : i = j
    · rw [e, u_eq]
    · rw [u_n2 (by omega)]; exact h2 i (by omega) (by omega)
theorem R_fr_loop {a b more : Int} (M0 : zM) (hF : RFr fr M0) (ha : 0 ≤ a ∧ a + (fr.length : Int) ≤ 300) (k : ∀ M', (∀ i : Nat, i < fr.length → M' 79 (a + (i : Int)) = fr.getD i 0) → (∀ i, i < a ∨ a + (fr.length : Int) ≤ i → M' 79 i = M0 79 i) → (∀ c j, c ≠ 79 → M' c j = M0 c j) → ∀ w, v_wp L d 238 129 [(2, 77), (0, a), (0, b), (0, more), w] [] M' Q) : ∀ (n j : Nat) (Mc : zM), n = fr.length - j → j ≤ fr.length → (∀ i : Nat, i < j → Mc 79 (a + (i : Int)) = fr.getD i 0) → (∀ i, i < a ∨ a + (j : Int) ≤ i → Mc 79 i = M0 79 i) → (∀ c j, c ≠ 79 → Mc c j = M0 c j) → v_wp L d 238 98 [(2, 77), (0, a), (0, b), (0, more), (0, (j : Int))] [] Mc Q := by
  intro n
  induction n with
  | zero =>
    intro j Mc hn h0 h2 h3 ho
    have ej : j = fr.length := by omega
    subst ej
    have p : Mc 77 5 = (fr.length : Int) := (ho 77 5 (by decide)).trans hF.1
    refine v_load rfl rfl ⟨rfl, Nat.le_of_ble_eq_true rfl⟩ ?_
    refine v_load rfl rfl ⟨rfl, Nat.le_of_ble_eq_true rfl⟩ ?_
    refine v_getx rfl rfl (p) ?_
    refine v_ige rfl (fun _ => ?_) (fun h => absurd h (by omega))
    exact k Mc h2 h3 ho _
  | succ n ih =>
    intro j Mc hn h0 h2 h3 ho
    have p : Mc 77 5 = (fr.length : Int) := (ho 77 5 (by decide)).trans hF.1
    have q : Mc 80 (j : Int) = fr.getD j 0 := (ho 80 _ (by decide)).trans (hF.2.2 j (by omega))
    refine v_load rfl rfl ⟨rfl, Nat.le_of_ble_eq_true rfl⟩ ?_
    refine v_load rfl rfl ⟨rfl, Nat.le_of_ble_eq_true rfl⟩ ?_
    refine v_getx rfl rfl (p) ?_
    refine v_ige rfl (fun h => absurd h (by omega)) (fun _ => ?_)
    refine v_load rfl rfl ⟨rfl, Nat.le_of_ble_eq_true rfl⟩ ?_
    refine v_getp rfl rfl rfl ?_
    refine v_load rfl rfl ⟨rfl, Nat.le_of_ble_eq_true rfl⟩ ?_
    refine v_load rfl rfl ⟨rfl, Nat.le_of_ble_eq_true rfl⟩ ?_
    refine v_add rfl (by omega) ?_
    refine v_load rfl rfl ⟨rfl, Nat.le_of_ble_eq_true rfl⟩ ?_
    refine v_getp rfl rfl rfl ?_
    refine v_load rfl rfl ⟨rfl, Nat.le_of_ble_eq_true rfl⟩ ?_
    refine v_ald9 rfl rfl ⟨by omega, by show _ < (301 : Int); omega⟩ ?_
    rw [q]
    refine v_ast9 rfl rfl (by decide) ⟨by omega, by show _ < (300 : Int); omega⟩ ?_
    refine v_iinc rfl rfl rfl (by omega) rfl ?_
    refine v_goto rfl ?_
    refine ih (j + 1) _ (by omega) (by omega) (fun i hi => ?_) (fun i hi => by rw [u_n2 (by omega)]; exact h3 i (by omega)) (fun c i hc => by rw [u_n1 hc]; exact ho c i hc)
    by_cases e : i = j
    · rw [e, u_eq]
    · rw [u_n2 (by omega)]; exact h2 i (by omega)
theorem RO_fr {T : List zT} {N : List zQ} {M M' : zM} (h : RO T N M) (h1 : ∀ j, j = 59 ∨ j = 60 → M' 77 j = M 77 j) (h2 : ∀ b j, b = 113 ∨ (116 ≤ b ∧ b ≤ 122) → M' b j = M b j) : RO T N M' := by
  obtain ⟨k1, k2, k3, k4, k5⟩ := h
  refine ⟨by rw [h1 59 (by decide)]; exact k1, fun i hi => ?_, by rw [h1 60 (by decide)]; exact k3, fun i hi => ?_, fun s s0 s1 => by rw [h2 113 s (by decide)]; exact k5 s s0 s1⟩
  · rw [h2 116 _ (by decide), h2 117 _ (by decide), h2 118 _ (by decide), h2 119 _ (by decide)]; exact k2 i hi
  · rw [h2 120 _ (by decide), h2 121 _ (by decide), h2 122 _ (by decide)]; exact k4 i hi
theorem RFr_fr {M M' : zM} (h : RFr fr M) (h1 : M' 77 5 = M 77 5) (h2 : ∀ j, M' 80 j = M 80 j) : RFr fr M' := ⟨h1.trans h.1, h.2.1, fun i hi => by rw [h2]; exact h.2.2 i hi⟩
variable {O : Nat → Int} {Kp : Nat → Bool} {Ls : Int → Int} {eK eN : Int}
theorem R_edits {a b : Int} (hJ : RJ t tp Pa Fu O Kp Ls eK eN M) (hF : RFr fr M) (hab : 0 ≤ a ∧ a ≤ b ∧ b ≤ (t.length : Int)) (hlen : (t.length : Int) + ((fr.length : Int) - (b - a)) ≤ 300) (hr : 0 ≤ eK ∧ eK ≤ 1000000 ∧ 0 ≤ eN ∧ eN ≤ 1000000)
    (k : ∀ M', RJ (edT t fr a b) tp (paA Pa t) [] (og (toks t) (toks (edT t fr a b)) a b (((edT t fr a b).length : Int) - (t.length : Int))) (kpB (og (toks t) (toks (edT t fr a b)) a b (((edT t fr a b).length : Int) - (t.length : Int))) (NT (toks t)) (NT (toks (edT t fr a b)))) (fun s => lsS (og (toks t) (toks (edT t fr a b)) a b (((edT t fr a b).length : Int) - (t.length : Int))) (NT (toks t)) (NT (toks (edT t fr a b))) s (NT (toks (edT t fr a b))).length) (eK + kpN t (edT t fr a b) a b) (eN + ((NT (toks (edT t fr a b))).length : Int)) M' → z_oR 77 127 M M' → Q none M') : v_call L (d + 11) 238 [(2, 77), (0, a), (0, b)] M Q := by
  obtain ⟨hS, hP, hHp, -, -, h67, h68⟩ := hJ
  have hl := hS.1.2.1
  have hel := edT_len (t := t) (fr := fr) hab
  have hfl := hF.2.1
  generalize hmo : (fr.length : Int) - (b - a) = more at *
  have emo : ((edT t fr a b).length : Int) - (t.length : Int) = more := by omega
  have hkn := kpN_rng t (edT t fr a b) a b
  have hnl := nt_l (t := edT t fr a b) (by omega)
  -- behind the moving
  have fin : ∀ (M3 : zM) (w : zV), HRp (paA Pa t) M3 → HRf [] M3 → RO (toks t) (NT (toks t)) M3 → RTp tp M3 → M3 77 4 = (t.length : Int) → M3 77 67 = eK → M3 77 68 = eN → (∀ i : Nat, (i : Int) < a → M3 79 (i : Int) = t.getD i 0) → (∀ i, b ≤ i → i < (t.length : Int) → M3 79 (i + more) = t.getD i.toNat 0) → (∀ i : Nat, i < fr.length → M3 79 (a + (i : Int)) = fr.getD i 0) → z_oR 77 127 M M3 → v_wp L (d + 11) 238 129 [(2, 77), (0, a), (0, b), (0, more), w] [] M3 Q := by
    intro M3 w p1 p2 p3 p4 p5 p6 p7 q1 q2 q3 o3
    have o4 : ∀ b j, (b = 77 → j ≠ 4) → z_upd M3 77 4 ((t.length : Int) + more) b j = M3 b j := fun b j h => by
      have h3 : ¬ (b = 77 ∧ j = 4) := fun z => h z.1 z.2
      simp only [z_upd]
      rw [if_neg h3]
    have hX4 : RX (edT t fr a b) (z_upd M3 77 4 ((t.length : Int) + more)) := by
      refine ⟨by rw [u_eq]; exact hel.symm, by omega, fun i hi => ?_⟩
      rw [o4 79 _ (by omega), edT_at hab, hmo]
      by_cases c1 : (i : Int) < a
      · rw [if_pos c1]; exact q1 i c1
      · rw [if_neg c1]
        by_cases c2 : (i : Int) < a + (fr.length : Int)
        · rw [if_pos c2]
          have := q3 (i - a.toNat) (by omega)
          rw [show a + ((i - a.toNat : Nat) : Int) = (i : Int) by omega] at this
          exact this
        · rw [if_neg c2]
          have := q2 ((i : Int) - more) (by omega) (by omega)
          rw [show (i : Int) - more + more = (i : Int) by omega] at this
          exact this
    refine v_load rfl rfl ⟨rfl, Nat.le_of_ble_eq_true rfl⟩ ?_
    refine v_load rfl rfl ⟨rfl, Nat.le_of_ble_eq_true rfl⟩ ?_
    refine v_getx rfl rfl (p5) ?_
    refine v_load rfl rfl ⟨rfl, Nat.le_of_ble_eq_true rfl⟩ ?_
    refine v_add rfl (by omega) ?_
    refine v_puti rfl rfl rfl ?_
    refine v_load rfl rfl ⟨rfl, Nat.le_of_ble_eq_true rfl⟩ ?_
    refine v_callr rfl ⟨Nat.le_of_ble_eq_true rfl, Nat.le_of_ble_eq_true rfl, rfl, Nat.le_of_ble_eq_true rfl, rfl⟩ ?_
    refine R_reads hX4 (fun M5 s5 o5 => ?_)
    have r5 : RO (toks t) (NT (toks t)) M5 := RO_fr p3 (fun j hj => by rw [o5.2 j (by omega) (by omega) (by omega) (by omega) (by omega), o4 77 j (by omega)]) (fun c j hc => by rw [o5.1 c j (by omega) (by omega) (by omega), o4 c j (by omega)])
    refine v_load rfl rfl ⟨rfl, Nat.le_of_ble_eq_true rfl⟩ ?_
    refine v_load rfl rfl ⟨rfl, Nat.le_of_ble_eq_true rfl⟩ ?_
    refine v_load rfl rfl ⟨rfl, Nat.le_of_ble_eq_true rfl⟩ ?_
    refine v_load rfl rfl ⟨rfl, Nat.le_of_ble_eq_true rfl⟩ ?_
    refine v_callr rfl ⟨Nat.le_of_ble_eq_true rfl, Nat.le_of_ble_eq_true rfl, rfl, Nat.le_of_ble_eq_true rfl, rfl⟩ ?_
    refine R_keeps s5 r5 hl ⟨hab.2.1, by omega, by omega, by omega⟩ (fun M6 k6 o6 => ?_)
    have e62 := k6.2.2.2.2
    rw [← emo] at k6 e62
    have ec : cI (kpB (og (toks t) (toks (edT t fr a b)) a b (((edT t fr a b).length : Int) - (t.length : Int))) (NT (toks t)) (NT (toks (edT t fr a b)))) (NT (toks (edT t fr a b))).length = kpN t (edT t fr a b) a b := rfl
    rw [ec] at e62
    have q67 : M6 77 67 = eK := by rw [o6 77 67 (by decide) (by decide) (by decide) (by decide), o5.2 67 (by decide) (by decide) (by decide) (by decide) (by decide), o4 77 67 (by decide)]; exact p6
    have q68 : M6 77 68 = eN := by rw [o6 77 68 (by decide) (by decide) (by decide) (by decide), o5.2 68 (by decide) (by decide) (by decide) (by decide) (by decide), o4 77 68 (by decide)]; exact p7
    have s6 := RSt_oKp s5 o6
    have q44 := (TM_len s6.2.2.1).1
    refine v_load rfl rfl ⟨rfl, Nat.le_of_ble_eq_true rfl⟩ ?_
    refine v_load rfl rfl ⟨rfl, Nat.le_of_ble_eq_true rfl⟩ ?_
    refine v_getx rfl rfl (q67) ?_
    refine v_load rfl rfl ⟨rfl, Nat.le_of_ble_eq_true rfl⟩ ?_
    refine v_getx rfl rfl (e62) ?_
    refine v_add rfl (by omega) ?_
    refine v_puti rfl rfl rfl ?_
    refine v_load rfl rfl ⟨rfl, Nat.le_of_ble_eq_true rfl⟩ ?_
    refine v_load rfl rfl ⟨rfl, Nat.le_of_ble_eq_true rfl⟩ ?_
    refine v_getx rfl rfl (show _ = eN by rw [u_n2 (by decide)]; exact q68) ?_
    refine v_load rfl rfl ⟨rfl, Nat.le_of_ble_eq_true rfl⟩ ?_
    refine v_getx rfl rfl (show _ = ((NT (toks (edT t fr a b))).length : Int) by rw [u_n2 (by decide)]; exact q44) ?_
    refine v_add rfl (by omega) ?_
    refine v_puti rfl rfl rfl ?_
    refine v_ret rfl rfl ?_
    have o7 : ∀ c j, (c = 77 → j ≠ 67 ∧ j ≠ 68) → z_upd (z_upd M6 77 67 (eK + kpN t (edT t fr a b) a b)) 77 68 (eN + ((NT (toks (edT t fr a b))).length : Int)) c j = M6 c j := fun c j h => by
      have h3 : ¬ (c = 77 ∧ j = 67) := fun z => (h z.1).1 z.2
      have h4 : ¬ (c = 77 ∧ j = 68) := fun z => (h z.1).2 z.2
      simp only [z_upd]
      rw [if_neg h4, if_neg h3]
    have o57 : ∀ c j, c ≠ 77 → ¬ (81 ≤ c ∧ c ≤ 112) → c ≠ 115 → c ≠ 114 → c ≠ 123 → c ≠ 124 → z_upd (z_upd M6 77 67 (eK + kpN t (edT t fr a b) a b)) 77 68 (eN + ((NT (toks (edT t fr a b))).length : Int)) c j = M3 c j := fun c j c1 c2 c3 c4 c5 c6 => by
      rw [o7 c j (fun e => absurd e c1), o6 c j c4 c5 c6 (fun e => absurd e c1), o5.1 c j c1 c2 c3, o4 c j (fun e => absurd e c1)]
    have o77 : ∀ j, j ≠ 4 → j ≠ 10 → j ≠ 19 → ¬ (27 ≤ j ∧ j ≤ 31) → j ≠ 44 → j ≠ 49 → j ≠ 61 → j ≠ 62 → j ≠ 67 → j ≠ 68 → z_upd (z_upd M6 77 67 (eK + kpN t (edT t fr a b) a b)) 77 68 (eN + ((NT (toks (edT t fr a b))).length : Int)) 77 j = M3 77 j := fun j j1 j2 j3 j4 j5 j6 j7 j8 j9 j10 => by
      rw [o7 77 j (fun _ => ⟨j9, j10⟩), o6 77 j (by decide) (by decide) (by decide) (fun _ => ⟨j7, j8⟩), o5.2 j j2 j3 j4 j5 j6, o4 77 j (fun _ => j1)]
    refine k _ ⟨RSt_fr s6 (fun j hj => o7 77 j (by omega)) (fun c j hc => o7 c j (by omega)), RTp_fr p4 (o77 3 (by decide) (by decide) (by decide) (by decide) (by decide) (by decide) (by decide) (by decide) (by decide) (by decide)) (fun j => o57 78 j (by decide) (by decide) (by decide) (by decide) (by decide) (by decide)), HRp_fr p1 (o77 65 (by decide) (by decide) (by decide) (by decide) (by decide) (by decide) (by decide) (by decide) (by decide) (by decide)) (fun j => o57 125 j (by decide) (by decide) (by decide) (by decide) (by decide) (by decide)), HRf_fr p2 (o77 66 (by decide) (by decide) (by decide) (by decide) (by decide) (by decide) (by decide) (by decide) (by decide) (by decide)) (fun j => o57 126 j (by decide) (by decide) (by decide) (by decide) (by decide) (by decide)), KPR_fr k6 (fun j hj => o7 77 j (by omega)) (fun c j hc => o7 c j (by omega)), by rw [u_n2 (by decide), u_eq], u_eq⟩ (fun c j hc => ?_)
    rw [o57 c j (by omega) (by omega) (by omega) (by omega) (by omega) (by omega)]
    exact o3 c j hc
  refine v_in ?_
  refine v_load rfl rfl ⟨rfl, Nat.le_of_ble_eq_true rfl⟩ ?_
  refine v_callr rfl ⟨Nat.le_of_ble_eq_true rfl, Nat.le_of_ble_eq_true rfl, rfl, Nat.le_of_ble_eq_true rfl, rfl⟩ ?_
  refine R_act hHp hS.1 (fun M1 a1 a2 o1 => ?_)
  have s1 : RSt t M1 := RSt_fr hS (fun j hj => o1 77 j (by decide) (by omega)) (fun c j hc => o1 c j (by omega) (by omega))
  refine v_load rfl rfl ⟨rfl, Nat.le_of_ble_eq_true rfl⟩ ?_
  refine v_callr rfl ⟨Nat.le_of_ble_eq_true rfl, Nat.le_of_ble_eq_true rfl, rfl, Nat.le_of_ble_eq_true rfl, rfl⟩ ?_
  refine R_remembers s1 (fun M2 c2 o2 => ?_)
  have o12 : ∀ c j, c ≠ 125 → c ≠ 113 → ¬ (116 ≤ c ∧ c ≤ 122) → (c = 77 → j ≠ 65 ∧ j ≠ 66 ∧ j ≠ 59 ∧ j ≠ 60) → M2 c j = M c j := fun c j c1 c2 c3 c4 => by rw [o2 c j c2 c3 (fun e => ⟨(c4 e).2.2.1, (c4 e).2.2.2⟩), o1 c j c1 (fun e => ⟨(c4 e).1, (c4 e).2.1⟩)]
  have f2 : RFr fr M2 := RFr_fr hF (o12 77 5 (by decide) (by decide) (by decide) (by decide)) (fun j => o12 80 j (by decide) (by decide) (by decide) (by omega))
  have x2 : RX t M2 := RX_fr hS.1 (o12 77 4 (by decide) (by decide) (by decide) (by decide)) (fun j => o12 79 j (by decide) (by decide) (by decide) (by omega))
  have p2a : HRp (paA Pa t) M2 := HRp_fr a1 (o2 77 65 (by decide) (by decide) (by decide)) (fun j => o2 125 j (by decide) (by decide) (by omega))
  have p2b : HRf [] M2 := HRf_fr a2 (o2 77 66 (by decide) (by decide) (by decide)) (fun j => o2 126 j (by decide) (by decide) (by omega))
  have p2c : RTp tp M2 := RTp_fr hP (o12 77 3 (by decide) (by decide) (by decide) (by decide)) (fun j => o12 78 j (by decide) (by decide) (by decide) (by omega))
  have p2d : M2 77 67 = eK := by rw [o12 77 67 (by decide) (by decide) (by decide) (by decide)]; exact h67
  have p2e : M2 77 68 = eN := by rw [o12 77 68 (by decide) (by decide) (by decide) (by decide)]; exact h68
  have ot2 : z_oR 77 127 M M2 := fun c j hc => o12 c j (by omega) (by omega) (by omega) (by omega)
  have xt : ∀ i : Nat, i < t.length → M2 79 (i : Int) = t.getD i 0 := x2.2.2
  have xti : ∀ i : Int, 0 ≤ i → i < (t.length : Int) → M2 79 i = t.getD i.toNat 0 := fun i i0 i1 => by
    have := xt i.toNat (by omega)
    rw [show ((i.toNat : Nat) : Int) = i by omega] at this
    exact this
  -- the bytes that come
  have go : ∀ (M3 : zM), (∀ i, b ≤ i → i < (t.length : Int) → M3 79 (i + more) = M2 79 i) → (∀ i, i < b + more → i < b → M3 79 i = M2 79 i) → (∀ c j, c ≠ 79 → M3 c j = M2 c j) → ∀ w, v_wp L (d + 11) 238 95 [(2, 77), (0, a), (0, b), (0, more), w] [] M3 Q := by
    intro M3 g1 g2 g3 w
    refine v_push rfl ?_
    refine v_store rfl ⟨rfl, Nat.le_of_ble_eq_true rfl, Nat.le_of_ble_eq_true rfl, rfl⟩ rfl ?_
    refine R_fr_loop M3 (RFr_fr f2 (g3 77 5 (by decide)) (fun j => g3 80 j (by decide))) ⟨hab.1, by omega⟩ (fun M4 e1 e2 e3 w => ?_) _ 0 M3 rfl (Nat.zero_le _) (fun i hi => absurd hi (Nat.not_lt_zero _)) (fun _ _ => rfl) (fun _ _ _ => rfl)
    have o24 : ∀ c j, c ≠ 79 → M4 c j = M2 c j := fun c j hc => (e3 c j hc).trans (g3 c j hc)
    refine fin M4 w (HRp_fr p2a (o24 77 65 (by decide)) (fun j => o24 125 j (by decide))) (HRf_fr p2b (o24 77 66 (by decide)) (fun j => o24 126 j (by decide))) (RO_fr c2 (fun j _ => o24 77 j (by decide)) (fun c j hc => o24 c j (by omega))) (RTp_fr p2c (o24 77 3 (by decide)) (fun j => o24 78 j (by decide))) (by rw [o24 77 4 (by decide)]; exact x2.1) (by rw [o24 77 67 (by decide)]; exact p2d) (by rw [o24 77 68 (by decide)]; exact p2e) (fun i hi => ?_) (fun i i1 i2 => ?_) e1 (fun c j hc => by rw [o24 c j (by omega)]; exact ot2 c j hc)
    · rw [e2 _ (Or.inl hi), g2 _ (by omega) (by omega)]; exact xt i (by omega)
    · rw [e2 _ (Or.inr (by omega)), g1 i i1 i2]; exact xti i (by omega) i2
  refine v_load rfl rfl ⟨rfl, Nat.le_of_ble_eq_true rfl⟩ ?_
  refine v_getx rfl rfl (f2.1) ?_
  refine v_load rfl rfl ⟨rfl, Nat.le_of_ble_eq_true rfl⟩ ?_
  refine v_load rfl rfl ⟨rfl, Nat.le_of_ble_eq_true rfl⟩ ?_
  refine v_sub rfl (by omega) ?_
  refine v_sub rfl (by omega) ?_
  rw [hmo]
  refine v_store rfl ⟨rfl, Nat.le_of_ble_eq_true rfl, Nat.le_of_ble_eq_true rfl, rfl⟩ rfl ?_
  by_cases c1 : 0 < more
  · refine v_load rfl rfl ⟨rfl, Nat.le_of_ble_eq_true rfl⟩ ?_
    refine v_ifle rfl (fun h => absurd h (by omega)) (fun _ => ?_)
    refine v_load rfl rfl ⟨rfl, Nat.le_of_ble_eq_true rfl⟩ ?_
    refine v_getx rfl rfl (x2.1) ?_
    refine v_push rfl ?_
    refine v_sub rfl (by omega) ?_
    refine v_store rfl ⟨rfl, Nat.le_of_ble_eq_true rfl, Nat.le_of_ble_eq_true rfl, rfl⟩ rfl ?_
    refine R_up_loop M2 x2.1 ⟨by omega, hab.2.2⟩ ⟨c1, by omega⟩ (fun M3 g1 g2 g3 w => ?_) _ _ M2 rfl (by omega) (by omega) (fun i i1 i2 => absurd i2 (by omega)) (fun _ _ => rfl) (fun _ _ _ => rfl)
    refine v_load rfl rfl ⟨rfl, Nat.le_of_ble_eq_true rfl⟩ ?_
    refine v_ifge rfl (fun _ => ?_) (fun h => absurd h (by omega))
    exact go M3 g1 (fun i i1 _ => g2 i i1) g3 w
  · by_cases c2 : more < 0
    · refine v_load rfl rfl ⟨rfl, Nat.le_of_ble_eq_true rfl⟩ ?_
      refine v_ifle rfl (fun _ => ?_) (fun h => absurd h (by omega))
      refine v_load rfl rfl ⟨rfl, Nat.le_of_ble_eq_true rfl⟩ ?_
      refine v_ifge rfl (fun h => absurd h (by omega)) (fun _ => ?_)
      refine v_load rfl rfl ⟨rfl, Nat.le_of_ble_eq_true rfl⟩ ?_
      refine v_store rfl ⟨rfl, Nat.le_of_ble_eq_true rfl, Nat.le_of_ble_eq_true rfl, rfl⟩ rfl ?_
      exact R_dn_loop M2 x2.1 hl ⟨by omega, hab.2.2⟩ ⟨c2, by omega⟩ (fun M3 g1 g2 g3 w => go M3 g1 (fun i i1 _ => g2 i i1) g3 w) _ b M2 rfl (Int.le_refl _) hab.2.2 (fun i i1 i2 => absurd i2 (by omega)) (fun _ _ => rfl) (fun _ _ _ => rfl)
    · refine v_load rfl rfl ⟨rfl, Nat.le_of_ble_eq_true rfl⟩ ?_
      refine v_ifle rfl (fun _ => ?_) (fun h => absurd h (by omega))
      refine v_load rfl rfl ⟨rfl, Nat.le_of_ble_eq_true rfl⟩ ?_
      refine v_ifge rfl (fun _ => ?_) (fun h => absurd h (by omega))
      exact go M2 (fun i i1 i2 => by rw [show more = 0 by omega, Int.add_zero]) (fun _ _ _ => rfl) (fun _ _ _ => rfl) _
end RE2
