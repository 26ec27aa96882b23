/-! THE REFERENCE CARRIES OUT EDITS: methods 236 to 238 -/
def RFr (fr : List Int) (M : zM) : Prop := M 77 5 = (fr.length : Int) ∧ fr.length ≤ 301 ∧ ∀ i : Nat, i < fr.length → M 80 (i : Int) = fr.getD i 0
/-- what bytes that come may change -/
def oF (M M' : zM) : Prop := ∀ b j, b ≠ 80 → (b = 77 → j ≠ 5) → M' b j = M b j
theorem oF_rf {M : zM} : oF M M := fun _ _ _ _ => rfl
theorem oF_tr {M M1 M2 : zM} (h : oF M M1) (h2 : oF M1 M2) : oF M M2 := fun b j a1 a2 => (h2 b j a1 a2).trans (h b j a1 a2)
/-- bytes of a text from a to b less 1 -/
def sub (t : List Int) (a b : Int) : List Int := (t.take b.toNat).drop a.toNat
theorem sub_len {t : List Int} {a b : Int} (h : 0 ≤ a ∧ a ≤ b ∧ b ≤ (t.length : Int)) : ((sub t a b).length : Int) = b - a := by
  unfold sub
  rw [List.length_drop, List.length_take]
  omega
theorem sub_at {t : List Int} {a b : Int} (h : 0 ≤ a ∧ b ≤ (t.length : Int)) {i : Nat} (hi : a + (i : Int) < b) : (sub t a b).getD i 0 = t.getD (a.toNat + i) 0 := by
  unfold sub
  rw [List.getD_eq_getElem?_getD, List.getD_eq_getElem?_getD, List.getElem?_drop, List.getElem?_take, if_pos (by omega)]
theorem sub_nil {t : List Int} {a b : Int} (h : b ≤ a) : sub t a b = [] := by
  unfold sub
  exact List.drop_eq_nil_of_le (by rw [List.length_take]; omega)
theorem sub_snoc {t : List Int} {a b : Int} (h : 0 ≤ a ∧ a ≤ b ∧ b < (t.length : Int)) : sub t a (b + 1) = sub t a b ++ [t.getD b.toNat 0] := by
  unfold sub
  rw [show (b + 1).toNat = b.toNat + 1 by omega, List.take_succ, List.drop_append_of_le_length (by rw [List.length_take]; omega), List.getElem?_eq_getElem (show b.toNat < t.length by omega), List.getD_eq_getElem?_getD, List.getElem?_eq_getElem (show b.toNat < t.length by omega)]
  rfl
section RE2
variable {L d : Nat} {M : zM} {Q : Option zV → zM → Prop} {t fr tp : List Int} {Pa Fu : List (List Int)}
theorem R_comes {x : Int} (hF : RFr fr M) (hl : fr.length < 301) (k : ∀ M', RFr (fr ++ [x]) M' → oF M M' → Q none M') : v_call L d 236 [(2, 77), (0, x)] M Q := by
  obtain ⟨h1, h2, h3⟩ := hF
  refine v_in ?_
  refine v_load rfl rfl ⟨rfl, Nat.le_of_ble_eq_true rfl⟩ ?_
  refine v_getp rfl rfl rfl ?_
  refine v_load rfl rfl ⟨rfl, Nat.le_of_ble_eq_true rfl⟩ ?_
  refine v_getx rfl rfl (h1) ?_
  refine v_load rfl rfl ⟨rfl, Nat.le_of_ble_eq_true rfl⟩ ?_
  refine v_ast9 rfl rfl (by decide) ⟨by omega, by show _ < (301 : Int); omega⟩ ?_
  refine v_load rfl rfl ⟨rfl, Nat.le_of_ble_eq_true rfl⟩ ?_
  refine v_load rfl rfl ⟨rfl, Nat.le_of_ble_eq_true rfl⟩ ?_
  refine v_getx rfl rfl (show _ = (fr.length : Int) by rw [u_n1 (by decide)]; exact h1) ?_
  refine v_push rfl ?_
  refine v_add rfl (by omega) ?_
  refine v_puti rfl rfl rfl ?_
  refine v_ret rfl rfl ?_
  have hll : (fr ++ [x]).length = fr.length + 1 := by simp
  refine k _ ⟨by rw [u_eq, hll]; omega, by omega, fun i hi => ?_⟩ (fun b j b1 b2 => ?_)
  · rw [u_n1 (by decide)]
    by_cases e : i = fr.length
    · subst e; rw [u_eq, g_app2]
    · rw [u_n2 (by omega), g_app1 (by omega)]; exact h3 i (by omega)
  · have h3 : ¬ (b = 77 ∧ j = 5) := fun z => b2 z.1 z.2
    simp only [z_upd]
    rw [if_neg h3, if_neg (by omega)]
theorem R_comeText_loop {a b : Int} (M0 : zM) (hX : RX t M0) (hab : 0 ≤ a ∧ b ≤ (t.length : Int)) (k : ∀ M', RFr (fr ++ sub t a b) M' → oF M0 M' → Q none M') : ∀ (n : Nat) (j : Int) (Mc : zM), n = (b - j).toNat → a ≤ j → (j ≤ b ∨ b ≤ a ∧ j = a) → (fr.length : Int) + (b - a) ≤ 301 → RFr (fr ++ sub t a j) Mc → oF M0 Mc → v_wp L (d + 1) 237 2 [(2, 77), (0, a), (0, b), (0, j)] [] Mc Q := by
  intro n
  have hxl := hX.2.1
  induction n with
  | zero =>
    intro j Mc hn h0 h1 hl hF ho
    have e : sub t a j = sub t a b := by
      by_cases c : b ≤ a
      · rw [sub_nil c, sub_nil (by omega)]
      · rw [show j = b by omega]
    rw [e] at hF
    refine v_load rfl rfl ⟨rfl, Nat.le_of_ble_eq_true rfl⟩ ?_
    refine v_load rfl rfl ⟨rfl, Nat.le_of_ble_eq_true rfl⟩ ?_
    refine v_ige rfl (fun _ => ?_) (fun h => absurd h (by omega))
    refine v_ret rfl rfl ?_
    exact k Mc hF ho
  | succ n ih =>
    intro j Mc hn h0 h1 hl hF ho
    have hjb : j < b := by omega
    have q : Mc 79 j = t.getD j.toNat 0 := by
      rw [ho 79 j (by decide) (by omega)]
      have := hX.2.2 j.toNat (by omega)
      rw [show ((j.toNat : Nat) : Int) = j by omega] at this
      exact this
    have hsl := sub_len (t := t) (a := a) (b := j) ⟨hab.1, h0, by omega⟩
    refine v_load rfl rfl ⟨rfl, Nat.le_of_ble_eq_true rfl⟩ ?_
    refine v_load rfl rfl ⟨rfl, Nat.le_of_ble_eq_true rfl⟩ ?_
    refine v_ige rfl (fun h => absurd h (by omega)) (fun _ => ?_)
    refine v_load rfl rfl ⟨rfl, Nat.le_of_ble_eq_true rfl⟩ ?_
    refine v_load rfl rfl ⟨rfl, Nat.le_of_ble_eq_true rfl⟩ ?_
    refine v_getp rfl rfl rfl ?_
    refine v_load rfl rfl ⟨rfl, Nat.le_of_ble_eq_true rfl⟩ ?_
    refine v_ald9 rfl rfl ⟨by omega, by show _ < (300 : Int); omega⟩ ?_
    rw [q]
    refine v_callr rfl ⟨Nat.le_of_ble_eq_true rfl, Nat.le_of_ble_eq_true rfl, rfl, Nat.le_of_ble_eq_true rfl, rfl⟩ ?_
    refine R_comes hF (by rw [List.length_append]; omega) (fun M1 f1 o1 => ?_)
    refine v_iinc rfl rfl rfl (by omega) rfl ?_
    refine v_goto rfl ?_
    refine ih (j + 1) M1 (by omega) (by omega) (by omega) hl ?_ (oF_tr ho o1)
    rw [sub_snoc ⟨hab.1, h0, by omega⟩, ← List.append_assoc]
    exact f1
theorem R_comeText {a b : Int} (hF : RFr fr M) (hX : RX t M) (hab : 0 ≤ a ∧ b ≤ (t.length : Int)) (hl : (fr.length : Int) + (b - a) ≤ 301) (k : ∀ M', RFr (fr ++ sub t a b) M' → oF M M' → Q none M') : v_call L (d + 1) 237 [(2, 77), (0, a), (0, b)] M Q := by
  refine v_in ?_
  refine v_load rfl rfl ⟨rfl, Nat.le_of_ble_eq_true rfl⟩ ?_
  refine v_store rfl ⟨rfl, Nat.le_of_ble_eq_true rfl, Nat.le_of_ble_eq_true rfl, rfl⟩ rfl ?_
  exact R_comeText_loop M hX hab k _ a M rfl (Int.le_refl _) (by omega) hl (by rw [sub_nil (Int.le_refl _), List.append_nil]; exact hF) oF_rf
/-- the text behind an EDIT -/
def edT (t fr : List Int) (a b : Int) : List Int := t.take a.toNat ++ fr ++ t.drop b.toNat
theorem edT_len {a b : Int} (h : 0 ≤ a ∧ a ≤ b ∧ b ≤ (t.length : Int)) : ((edT t fr a b).length : Int) = (t.length : Int) + ((fr.length : Int) - (b - a)) := by
  unfold edT
  rw [List.length_append, List.length_append, List.length_take, List.length_drop]
  omega
theorem edT_at {a b : Int} (h : 0 ≤ a ∧ a ≤ b ∧ b ≤ (t.length : Int)) {i : Nat} : (edT t fr a b).getD i 0 = if (i : Int) < a then t.getD i 0 else if (i : Int) < a + (fr.length : Int) then fr.getD (i - a.toNat) 0 else t.getD ((i : Int) - ((fr.length : Int) - (b - a))).toNat 0 := by
  have hl : (t.take a.toNat).length = a.toNat := by rw [List.length_take]; omega
  unfold edT
  by_cases c1 : (i : Int) < a
  · rw [if_pos c1, List.getD_eq_getElem?_getD, List.append_assoc, List.getElem?_append_left (by omega), List.getElem?_take, if_pos (by omega), List.getD_eq_getElem?_getD]
  · rw [if_neg c1]
    by_cases c2 : (i : Int) < a + (fr.length : Int)
    · rw [if_pos c2, List.getD_eq_getElem?_getD, List.getElem?_append_left (by rw [List.length_append]; omega), List.getElem?_append_right (by omega), hl, List.getD_eq_getElem?_getD]
    · rw [if_neg c2, List.getD_eq_getElem?_getD, List.getElem?_append_right (by rw [List.length_append]; omega), List.length_append, hl, List.getElem?_drop, List.getD_eq_getElem?_getD, show b.toNat + (i - (a.toNat + fr.length)) = ((i : Int) - ((fr.length : Int) - (b - a))).toNat by omega]
/-- the bytes behind go on -/
theorem R_up_loop {a b more : Int} (M0 : zM) (h4 : M0 77 4 = (t.length : Int)) (hb : 0 ≤ b ∧ b ≤ (t.length : Int)) (hm : 0 < more ∧ (t.length : Int) + more ≤ 300) (k : ∀ M', (∀ i, b ≤ i → i < (t.length : Int) → M' 79 (i + more) = M0 79 i) → (∀ i, i < b + more → M' 79 i = M0 79 i) → (∀ c j, c ≠ 79 → M' c j = M0 c j) → ∀ w, v_wp L d 238 57 [(2, 77), (0, a), (0, b), (0, more), w] [] M' Q) : ∀ (n : Nat) (j : Int) (Mc : zM), n = (j - b + 1).toNat → b - 1 ≤ j → j < (t.length : Int) → (∀ i, j < i → i < (t.length : Int) → Mc 79 (i + more) = M0 79 i) → (∀ i, i < j + 1 + more → Mc 79 i = M0 79 i) → (∀ c j, c ≠ 79 → Mc c j = M0 c j) → v_wp L d 238 29 [(2, 77), (0, a), (0, b), (0, more), (0, j)] [] Mc Q := by
  intro n
  induction n with
  | zero =>
    intro j Mc hn h0 h1 h2 h3 ho
    have ej : j = b - 1 := by omega
    subst ej
    refine v_load rfl rfl ⟨rfl, Nat.le_of_ble_eq_true rfl⟩ ?_
    refine v_load rfl rfl ⟨rfl, Nat.le_of_ble_eq_true rfl⟩ ?_
    refine v_ilt rfl (fun _ => ?_) (fun h => absurd h (by omega))
    exact k Mc (fun i i1 i2 => h2 i (by omega) i2) (fun i hi => h3 i (by omega)) ho _
  | succ n ih =>
    intro j Mc hn h0 h1 h2 h3 ho
    have q := h3 j (by omega)
    refine v_load rfl rfl ⟨rfl, Nat.le_of_ble_eq_true rfl⟩ ?_
    refine v_load rfl rfl ⟨rfl, Nat.le_of_ble_eq_true rfl⟩ ?_
    refine v_ilt rfl (fun h => absurd h (by omega)) (fun _ => ?_)
    refine v_load rfl rfl ⟨rfl, Nat.le_of_ble_eq_true rfl⟩ ?_
    refine v_getp rfl rfl rfl ?_
    refine v_load rfl rfl ⟨rfl, Nat.le_of_ble_eq_true rfl⟩ ?_
    refine v_load rfl rfl ⟨rfl, Nat.le_of_ble_eq_true rfl⟩ ?_
    refine v_add rfl (by omega) ?_
    refine v_load rfl rfl ⟨rfl, Nat.le_of_ble_eq_true rfl⟩ ?_
    refine v_getp rfl rfl rfl ?_
    refine v_load rfl rfl ⟨rfl, Nat.le_of_ble_eq_true rfl⟩ ?_
    refine v_ald9 rfl rfl ⟨by omega, by show _ < (300 : Int); omega⟩ ?_
    rw [q]
    refine v_ast9 rfl rfl (by decide) ⟨by omega, by show _ < (300 : Int); omega⟩ ?_
    refine v_iinc rfl rfl rfl (by omega) rfl ?_
    refine v_goto rfl ?_
    rw [show j + -1 = j - 1 by omega]
    refine ih (j - 1) _ (by omega) (by omega) (by omega) (fun i i1 i2 => ?_) (fun i hi => by rw [u_n2 (by omega)]; exact h3 i (by omega)) (fun c i hc => by rw [u_n1 hc]; exact ho c i hc)
    by_cases e : i = j
    · rw [e, u_eq]
    · rw [u_n2 (by omega)]; exact h2 i (by omega) i2
/-- .. or come back -/
theorem R_dn_loop {a b more : Int} (M0 : zM) (h4 : M0 77 4 = (t.length : Int)) (hl : t.length ≤ 300) (hb : 0 ≤ b ∧ b ≤ (t.length : Int)) (hm : more < 0 ∧ 0 ≤ b + more) (k : ∀ M', (∀ i, b ≤ i → i < (t.length : Int) → M' 79 (i + more) = M0 79 i) → (∀ i, i < b + more → M' 79 i = M0 79 i) → (∀ c j, c ≠ 79 → M' c j = M0 c j) → ∀ w, v_wp L d 238 95 [(2, 77), (0, a), (0, b), (0, more), w] [] M' Q) : ∀ (n : Nat) (j : Int) (Mc : zM), n = ((t.length : Int) - j).toNat → b ≤ j → j ≤ (t.length : Int) → (∀ i, b ≤ i → i < j → Mc 79 (i + more) = M0 79 i) → (∀ i, i < b + more ∨ j + more ≤ i → Mc 79 i = M0 79 i) → (∀ c j, c ≠ 79 → Mc c j = M0 c j) → v_wp L d 238 64 [(2, 77), (0, a), (0, b), (0, more), (0, j)] [] Mc Q := by
  intro n
  induction n with
  | zero =>
    intro j Mc hn h0 h1 h2 h3 ho
    have ej : j = (t.length : Int) := by omega
    subst ej
    have p : Mc 77 4 = (t.length : Int) := (ho 77 4 (by decide)).trans h4
    refine v_load rfl rfl ⟨rfl, Nat.le_of_ble_eq_true rfl⟩ ?_
    refine v_load rfl rfl ⟨rfl, Nat.le_of_ble_eq_true rfl⟩ ?_
    refine v_getx rfl rfl (p) ?_
    refine v_ige rfl (fun _ => ?_) (fun h => absurd h (by omega))
    exact k Mc h2 (fun i hi => h3 i (Or.inl hi)) ho _
  | succ n ih =>
    intro j Mc hn h0 h1 h2 h3 ho
    have p : Mc 77 4 = (t.length : Int) := (ho 77 4 (by decide)).trans h4
    have q := h3 j (by omega)
    refine v_load rfl rfl ⟨rfl, Nat.le_of_ble_eq_true rfl⟩ ?_
    refine v_load rfl rfl ⟨rfl, Nat.le_of_ble_eq_true rfl⟩ ?_
    refine v_getx rfl rfl (p) ?_
    refine v_ige rfl (fun h => absurd h (by omega)) (fun _ => ?_)
    refine v_load rfl rfl ⟨rfl, Nat.le_of_ble_eq_true rfl⟩ ?_
    refine v_getp rfl rfl rfl ?_
    refine v_load rfl rfl ⟨rfl, Nat.le_of_ble_eq_true rfl⟩ ?_
    refine v_load rfl rfl ⟨rfl, Nat.le_of_ble_eq_true rfl⟩ ?_
    refine v_add rfl (by omega) ?_
    refine v_load rfl rfl ⟨rfl, Nat.le_of_ble_eq_true rfl⟩ ?_
    refine v_getp rfl rfl rfl ?_
    refine v_load rfl rfl ⟨rfl, Nat.le_of_ble_eq_true rfl⟩ ?_
    refine v_ald9 rfl rfl ⟨by omega, by show _ < (300 : Int); omega⟩ ?_
    rw [q]
    refine v_ast9 rfl rfl (by decide) ⟨by omega, by show _ < (300 : Int); omega⟩ ?_
    refine v_iinc rfl rfl rfl (by omega) rfl ?_
    refine v_goto rfl ?_
    refine ih (j + 1) _ (by omega) (by omega) (by omega) (fun i i1 i2 => ?_) (fun i hi => by rw [u_n2 (by omega)]; exact h3 i (by omega)) (fun c i hc => by rw [u_n1 hc]; exact ho c i hc)
    by_cases e : i = j
    · rw [e, u_eq]
    · rw [u_n2 (by omega)]; exact h2 i (by omega) (by omega)
theorem R_fr_loop {a b more : Int} (M0 : zM) (hF : RFr fr M0) (ha : 0 ≤ a ∧ a + (fr.length : Int) ≤ 300) (k : ∀ M', (∀ i : Nat, i < fr.length → M' 79 (a + (i : Int)) = fr.getD i 0) → (∀ i, i < a ∨ a + (fr.length : Int) ≤ i → M' 79 i = M0 79 i) → (∀ c j, c ≠ 79 → M' c j = M0 c j) → ∀ w, v_wp L d 238 129 [(2, 77), (0, a), (0, b), (0, more), w] [] M' Q) : ∀ (n j : Nat) (Mc : zM), n = fr.length - j → j ≤ fr.length → (∀ i : Nat, i < j → Mc 79 (a + (i : Int)) = fr.getD i 0) → (∀ i, i < a ∨ a + (j : Int) ≤ i → Mc 79 i = M0 79 i) → (∀ c j, c ≠ 79 → Mc c j = M0 c j) → v_wp L d 238 98 [(2, 77), (0, a), (0, b), (0, more), (0, (j : Int))] [] Mc Q := by
  intro n
  induction n with
  | zero =>
    intro j Mc hn h0 h2 h3 ho
    have ej : j = fr.length := by omega
    subst ej
    have p : Mc 77 5 = (fr.length : Int) := (ho 77 5 (by decide)).trans hF.1
    refine v_load rfl rfl ⟨rfl, Nat.le_of_ble_eq_true rfl⟩ ?_
    refine v_load rfl rfl ⟨rfl, Nat.le_of_ble_eq_true rfl⟩ ?_
    refine v_getx rfl rfl (p) ?_
    refine v_ige rfl (fun _ => ?_) (fun h => absurd h (by omega))
    exact k Mc h2 h3 ho _
  | succ n ih =>
    intro j Mc hn h0 h2 h3 ho
    have p : Mc 77 5 = (fr.length : Int) := (ho 77 5 (by decide)).trans hF.1
    have q : Mc 80 (j : Int) = fr.getD j 0 := (ho 80 _ (by decide)).trans (hF.2.2 j (by omega))
    refine v_load rfl rfl ⟨rfl, Nat.le_of_ble_eq_true rfl⟩ ?_
    refine v_load rfl rfl ⟨rfl, Nat.le_of_ble_eq_true rfl⟩ ?_
    refine v_getx rfl rfl (p) ?_
    refine v_ige rfl (fun h => absurd h (by omega)) (fun _ => ?_)
    refine v_load rfl rfl ⟨rfl, Nat.le_of_ble_eq_true rfl⟩ ?_
    refine v_getp rfl rfl rfl ?_
    refine v_load rfl rfl ⟨rfl, Nat.le_of_ble_eq_true rfl⟩ ?_
    refine v_load rfl rfl ⟨rfl, Nat.le_of_ble_eq_true rfl⟩ ?_
    refine v_add rfl (by omega) ?_
    refine v_load rfl rfl ⟨rfl, Nat.le_of_ble_eq_true rfl⟩ ?_
    refine v_getp rfl rfl rfl ?_
    refine v_load rfl rfl ⟨rfl, Nat.le_of_ble_eq_true rfl⟩ ?_
    refine v_ald9 rfl rfl ⟨by omega, by show _ < (301 : Int); omega⟩ ?_
    rw [q]
    refine v_ast9 rfl rfl (by decide) ⟨by omega, by show _ < (300 : Int); omega⟩ ?_
    refine v_iinc rfl rfl rfl (by omega) rfl ?_
    refine v_goto rfl ?_
    refine ih (j + 1) _ (by omega) (by omega) (fun i hi => ?_) (fun i hi => by rw [u_n2 (by omega)]; exact h3 i (by omega)) (fun c i hc => by rw [u_n1 hc]; exact ho c i hc)
    by_cases e : i = j
    · rw [e, u_eq]
    · rw [u_n2 (by omega)]; exact h2 i (by omega)
end RE2
