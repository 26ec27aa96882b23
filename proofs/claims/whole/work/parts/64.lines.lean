/-! LINES: where each begins; both sides -/
def lnsF (t : List Int) : Nat → List Int
  | 0 => [0]
  | n + 1 => lnsF t n ++ (if tb t (n : Int) = 10 then [(n : Int) + 1] else [])
def lns (t : List Int) : List Int := lnsF t t.length
theorem lnsF_len (t : List Int) : ∀ n, (((lnsF t n).length : Nat) : Int) = nlF t n + 1
  | 0 => rfl
  | n + 1 => by
    have ih := lnsF_len t n
    show (((lnsF t n ++ (if tb t (n : Int) = 10 then [(n : Int) + 1] else [])).length : Nat) : Int) = nlF t n + (if tb t (n : Int) = 10 then 1 else 0) + 1
    rw [List.length_append]
    split
    · simp; omega
    · simp; omega
theorem nlF_mono (t : List Int) {m n : Nat} (h : m ≤ n) : nlF t m ≤ nlF t n := by
  induction n with
  | zero => rw [show m = 0 by omega]; exact Int.le_refl _
  | succ n ih =>
    by_cases e : m = n + 1
    · rw [e]; exact Int.le_refl _
    · have := ih (by omega)
      show _ ≤ nlF t n + (if tb t (n : Int) = 10 then 1 else 0)
      split <;> omega
theorem lns_le (t : List Int) (i : Nat) : ∀ (n k : Nat), k < (lnsF t n).length → ((lnsF t n).getD k 0 ≤ (i : Int) ↔ (k : Int) ≤ nlF t i)
  | 0, k, hk => by
    have hk : k = 0 := by simp [lnsF] at hk; exact hk
    subst hk
    have := nlF_nn t i
    exact ⟨fun _ => by omega, fun _ => by show (0 : Int) ≤ _; omega⟩
  | n + 1, k, hk => by
    have hl := lnsF_len t n
    by_cases e : k < (lnsF t n).length
    · rw [show (lnsF t (n + 1)).getD k 0 = (lnsF t n).getD k 0 from g_app1 e]
      exact lns_le t i n k e
    · by_cases c : tb t (n : Int) = 10
      · have e2 : lnsF t (n + 1) = lnsF t n ++ [(n : Int) + 1] := by show lnsF t n ++ _ = _; rw [if_pos c]
        rw [e2] at hk ⊢
        have hk2 : k = (lnsF t n).length := by simp at hk; omega
        subst hk2
        rw [g_app2]
        have hs : nlF t (n + 1) = nlF t n + 1 := by show nlF t n + (if tb t (n : Int) = 10 then 1 else 0) = _; rw [if_pos c]
        constructor
        · intro z
          have := nlF_mono t (m := n + 1) (n := i) (by omega)
          omega
        · intro z
          by_cases y : n < i
          · omega
          · have := nlF_mono t (m := i) (n := n) (by omega)
            omega
      · have e2 : lnsF t (n + 1) = lnsF t n := by show lnsF t n ++ _ = _; rw [if_neg c, List.append_nil]
        rw [e2] at hk
        exact absurd hk e
/-- the first byte of a line -/
def lnB (t : List Int) (i : Int) : Int := if 0 ≤ i ∧ i < ((lns t).length : Int) then (lns t).getD i.toNat 0 else -1
theorem lns_rng (t : List Int) : ∀ (n k : Nat), k < (lnsF t n).length → 0 ≤ (lnsF t n).getD k 0 ∧ (lnsF t n).getD k 0 ≤ (n : Int)
  | 0, k, hk => by
    have hk : k = 0 := by simp [lnsF] at hk; exact hk
    subst hk
    exact ⟨Int.le_refl _, Int.le_refl _⟩
  | n + 1, k, hk => by
    by_cases e : k < (lnsF t n).length
    · rw [show (lnsF t (n + 1)).getD k 0 = (lnsF t n).getD k 0 from g_app1 e]
      have := lns_rng t n k e
      omega
    · by_cases c : tb t (n : Int) = 10
      · have e2 : lnsF t (n + 1) = lnsF t n ++ [(n : Int) + 1] := by show lnsF t n ++ _ = _; rw [if_pos c]
        rw [e2] at hk ⊢
        have hk2 : k = (lnsF t n).length := by simp at hk; omega
        subst hk2
        rw [g_app2]
        omega
      · have e2 : lnsF t (n + 1) = lnsF t n := by show lnsF t n ++ _ = _; rw [if_neg c, List.append_nil]
        rw [e2] at hk
        exact absurd hk e
theorem lns_app (t : List Int) : ∀ (n m k : Nat), n ≤ m → k < (lnsF t n).length → (lnsF t m).getD k 0 = (lnsF t n).getD k 0 ∧ k < (lnsF t m).length := by
  intro n m
  induction m with
  | zero => intro k h hk; rw [show n = 0 by omega] at hk ⊢; exact ⟨rfl, hk⟩
  | succ m ih =>
    intro k h hk
    by_cases e : n = m + 1
    · rw [← e]; exact ⟨rfl, hk⟩
    · have := ih k (by omega) hk
      rw [show (lnsF t (m + 1)).getD k 0 = (lnsF t m).getD k 0 from g_app1 this.2]
      refine ⟨this.1, ?_⟩
      show k < (lnsF t m ++ _).length
      rw [List.length_append]
      omega
/-- a byte 10 begins the next line -/
theorem lnB_nl {t : List Int} {j : Nat} (hj : j < t.length) (c : tb t (j : Int) = 10) : lnB t (nlF t j + 1) = (j : Int) + 1 := by
  have hl := lnsF_len t j
  have e2 : lnsF t (j + 1) = lnsF t j ++ [(j : Int) + 1] := by show lnsF t j ++ _ = _; rw [if_pos c]
  have h1 : (lnsF t (j + 1)).getD (lnsF t j).length 0 = (j : Int) + 1 := by rw [e2]; exact g_app2
  have h2 := lns_app t (j + 1) t.length (lnsF t j).length (by omega) (by rw [e2]; simp)
  have hnn := nlF_nn t j
  unfold lnB
  rw [show nlF t j + 1 = (((lnsF t j).length : Nat) : Int) by omega, if_pos ⟨by omega, by unfold lns; omega⟩, Int.toNat_natCast]
  unfold lns
  rw [h2.1, h1]
section LN
variable {L d : Nat} {M : zM} {Q : Option zV → zM → Prop} {t : List Int} {a s : Int}
theorem S_lineBegin_loop {line : Int} (hB : z_isB a) (hV : BV M a t s) (k : Q (some (0, lnB t line)) M) (hl : line ≠ 0) : ∀ (n j : Nat), n = t.length - j → j ≤ t.length → (nlF t j < line ∨ line < 0) → v_wp L (d + 1) 10 10 [(2, a), (0, line), (0, nlF t j), (0, (j : Int))] [] M Q := by
  intro n
  have h1 := hV.1
  have h3 := hV.2.1
  induction n with
  | zero =>
    intro j hn hj hc
    have ej : j = t.length := by omega
    subst ej
    have hll := lnsF_len t t.length
    have e : lnB t line = -1 := by unfold lnB; rw [if_neg (by unfold lns; omega)]
    rw [e] at k
    refine v_load rfl rfl ⟨rfl, Nat.le_of_ble_eq_true rfl⟩ ?_
    refine v_load rfl rfl ⟨rfl, Nat.le_of_ble_eq_true rfl⟩ ?_
    refine v_getx rfl (by rw [(z_B hB).1]; rfl) h1 ?_
    refine v_ige rfl (fun _ => ?_) (fun h => absurd h (by omega))
    exact v_push rfl (v_ret rfl rfl k)
  | succ n ih =>
    intro j hn hj hc
    have hnn := nlF_nn t j
    have go40 : ∀ e : Int, e = nlF t (j + 1) → (nlF t (j + 1) < line ∨ line < 0) → v_wp L (d + 1) 10 40 [(2, a), (0, line), (0, e), (0, (j : Int))] [] M Q := by
      intro e he hc2
      subst he
      refine v_iinc rfl rfl rfl (by omega) rfl ?_
      refine v_goto rfl ?_
      exact ih (j + 1) (by omega) (by omega) hc2
    refine v_load rfl rfl ⟨rfl, Nat.le_of_ble_eq_true rfl⟩ ?_
    refine v_load rfl rfl ⟨rfl, Nat.le_of_ble_eq_true rfl⟩ ?_
    refine v_getx rfl (by rw [(z_B hB).1]; rfl) h1 ?_
    refine v_ige rfl (fun h => absurd h (by omega)) (fun _ => ?_)
    refine v_load rfl rfl ⟨rfl, Nat.le_of_ble_eq_true rfl⟩ ?_
    refine v_load rfl rfl ⟨rfl, Nat.le_of_ble_eq_true rfl⟩ ?_
    refine v_callr rfl ⟨Nat.le_of_ble_eq_true rfl, Nat.le_of_ble_eq_true rfl, z_rB hB, Nat.le_of_ble_eq_true rfl, rfl⟩ ?_
    refine S_atT hB hV ?_
    refine v_push rfl ?_
    refine v_ine rfl (fun c => ?_) (fun c => ?_)
    · have e : nlF t (j + 1) = nlF t j := by show nlF t j + (if tb t (j : Int) = 10 then 1 else 0) = _; rw [if_neg c]; omega
      exact go40 _ e.symm (by omega)
    · have e : nlF t (j + 1) = nlF t j + 1 := by show nlF t j + (if tb t (j : Int) = 10 then 1 else 0) = _; rw [if_pos c]
      refine v_iinc rfl rfl rfl (by omega) rfl ?_
      refine v_load rfl rfl ⟨rfl, Nat.le_of_ble_eq_true rfl⟩ ?_
      refine v_load rfl rfl ⟨rfl, Nat.le_of_ble_eq_true rfl⟩ ?_
      refine v_ine rfl (fun c2 => ?_) (fun c2 => ?_)
      · exact go40 _ e.symm (by omega)
      · refine v_load rfl rfl ⟨rfl, Nat.le_of_ble_eq_true rfl⟩ ?_
        refine v_push rfl ?_
        refine v_add rfl (by omega) ?_
        refine v_ret rfl rfl ?_
        have := lnB_nl (t := t) (j := j) (by omega) c
        rw [← c2, this] at k
        exact k
theorem S_lineBegin {line : Int} (hB : z_isB a) (hV : BV M a t s) (k : Q (some (0, lnB t line)) M) : v_call L (d + 1) 10 [(2, a), (0, line)] M Q := by
  refine v_in ?_
  refine v_load rfl rfl ⟨rfl, Nat.le_of_ble_eq_true rfl⟩ ?_
  refine v_ifne rfl (fun c => ?_) (fun c => ?_)
  · refine v_push rfl ?_
    refine v_store rfl ⟨rfl, Nat.le_of_ble_eq_true rfl, Nat.le_of_ble_eq_true rfl, rfl⟩ rfl ?_
    refine v_push rfl ?_
    refine v_store rfl ⟨rfl, Nat.le_of_ble_eq_true rfl, Nat.le_of_ble_eq_true rfl, rfl⟩ rfl ?_
    exact S_lineBegin_loop hB hV k c _ 0 rfl (Nat.zero_le _) (by show (0 : Int) < line ∨ _; omega)
  · refine v_push rfl (v_ret rfl rfl ?_)
    have hll := lnsF_len t t.length
    have hnn := nlF_nn t t.length
    have e : lnB t line = 0 := by
      unfold lnB
      rw [if_pos ⟨by omega, by unfold lns; omega⟩, c]
      have := (lns_app t 0 t.length 0 (Nat.zero_le _) (by simp [lnsF])).1
      exact this
    rw [e] at k
    exact k
/-- the reference's lines -/
def RLN (t : List Int) (M : zM) : Prop := M 77 49 = ((lns t).length : Int) ∧ ∀ i : Nat, i < (lns t).length → M 115 (i : Int) = (lns t).getD i 0
def oL (M M' : zM) : Prop := ∀ b j, b ≠ 115 → (b = 77 → j ≠ 49) → M' b j = M b j
theorem R_lines_loop (hX : RX t M) (k : ∀ M', RLN t M' → oL M M' → Q none M') : ∀ (n j : Nat) (Mc : zM), n = t.length - j → j ≤ t.length → Mc 77 49 = ((lnsF t j).length : Int) → (∀ i : Nat, i < (lnsF t j).length → Mc 115 (i : Int) = (lnsF t j).getD i 0) → oL M Mc → v_wp L d 222 14 [(2, 77), (0, (j : Int))] [] Mc Q := by
  intro n
  induction n with
  | zero =>
    intro j Mc hn hj h1 h2 ho
    have ej : j = t.length := by omega
    subst ej
    have hs : Mc 77 4 = (t.length : Int) := by rw [ho 77 4 (by decide) (fun _ => by decide)]; exact hX.1
    refine v_load rfl rfl ⟨rfl, Nat.le_of_ble_eq_true rfl⟩ ?_
    refine v_load rfl rfl ⟨rfl, Nat.le_of_ble_eq_true rfl⟩ ?_
    refine v_getx rfl rfl (hs) ?_
    refine v_ige rfl (fun _ => ?_) (fun h => absurd h (by omega))
    refine v_ret rfl rfl ?_
    exact k Mc ⟨h1, h2⟩ ho
  | succ n ih =>
    intro j Mc hn hj h1 h2 ho
    have hl := lnsF_len t j
    have hnn := nlF_nn t j
    have hxl := hX.2.1
    have hs : Mc 77 4 = (t.length : Int) := by rw [ho 77 4 (by decide) (fun _ => by decide)]; exact hX.1
    have ht : Mc 79 (j : Int) = tb t (j : Int) := by rw [ho 79 _ (by decide) (fun e => absurd e (by decide))]; exact RX_at hX ⟨by omega, by omega⟩
    by_cases c : tb t (j : Int) = 10
    · have e2 : lnsF t (j + 1) = lnsF t j ++ [(j : Int) + 1] := by show lnsF t j ++ _ = _; rw [if_pos c]
      have hll : (lnsF t (j + 1)).length = (lnsF t j).length + 1 := by rw [e2]; simp
      refine v_load rfl rfl ⟨rfl, Nat.le_of_ble_eq_true rfl⟩ ?_
      refine v_load rfl rfl ⟨rfl, Nat.le_of_ble_eq_true rfl⟩ ?_
      refine v_getx rfl rfl (hs) ?_
      refine v_ige rfl (fun h => absurd h (by omega)) (fun _ => ?_)
      refine v_load rfl rfl ⟨rfl, Nat.le_of_ble_eq_true rfl⟩ ?_
      refine v_getp rfl rfl rfl ?_
      refine v_load rfl rfl ⟨rfl, Nat.le_of_ble_eq_true rfl⟩ ?_
      refine v_ald9 rfl rfl ⟨by omega, by show _ < (300 : Int); omega⟩ ?_
      refine v_push rfl ?_
      refine v_ieq rfl (fun _ => ?_) (fun h => absurd h (by omega))
      refine v_load rfl rfl ⟨rfl, Nat.le_of_ble_eq_true rfl⟩ ?_
      refine v_getp rfl rfl rfl ?_
      refine v_load rfl rfl ⟨rfl, Nat.le_of_ble_eq_true rfl⟩ ?_
      refine v_getx rfl rfl (h1) ?_
      refine v_load rfl rfl ⟨rfl, Nat.le_of_ble_eq_true rfl⟩ ?_
      refine v_push rfl ?_
      refine v_add rfl (by omega) ?_
      refine v_ast9 rfl rfl (by decide) ⟨by omega, by show _ < (301 : Int); omega⟩ ?_
      refine v_load rfl rfl ⟨rfl, Nat.le_of_ble_eq_true rfl⟩ ?_
      refine v_load rfl rfl ⟨rfl, Nat.le_of_ble_eq_true rfl⟩ ?_
      refine v_getx rfl rfl (show _ = ((lnsF t j).length : Int) by rw [u_n1 (by decide)]; exact h1) ?_
      refine v_push rfl ?_
      refine v_add rfl (by omega) ?_
      refine v_puti rfl rfl rfl ?_
      refine v_iinc rfl rfl rfl (by omega) rfl ?_
      refine v_goto rfl ?_
      refine ih (j + 1) _ (by omega) (by omega) (by rw [u_eq, hll]; omega) (fun i hi => ?_) (fun b i b1 b2 => ?_)
      · rw [u_n1 (by decide)]
        by_cases ei : i = (lnsF t j).length
        · subst ei; rw [u_eq, e2, g_app2]
        · rw [u_n2 (by omega), h2 i (by omega), e2, g_app1 (by omega)]
      · have h3 : ¬ (b = 77 ∧ i = 49) := fun z => b2 z.1 z.2
        simp only [z_upd]
        rw [if_neg h3, if_neg (by omega)]
        exact ho b i b1 b2
    · have e2 : lnsF t (j + 1) = lnsF t j := by show lnsF t j ++ _ = _; rw [if_neg c, List.append_nil]
      refine v_load rfl rfl ⟨rfl, Nat.le_of_ble_eq_true rfl⟩ ?_
      refine v_load rfl rfl ⟨rfl, Nat.le_of_ble_eq_true rfl⟩ ?_
      refine v_getx rfl rfl (hs) ?_
      refine v_ige rfl (fun h => absurd h (by omega)) (fun _ => ?_)
      refine v_load rfl rfl ⟨rfl, Nat.le_of_ble_eq_true rfl⟩ ?_
      refine v_getp rfl rfl rfl ?_
      refine v_load rfl rfl ⟨rfl, Nat.le_of_ble_eq_true rfl⟩ ?_
      refine v_ald9 rfl rfl ⟨by omega, by show _ < (300 : Int); omega⟩ ?_
      refine v_push rfl ?_
      refine v_ieq rfl (fun h => absurd h (by omega)) (fun _ => ?_)
      refine v_goto rfl ?_
      refine v_iinc rfl rfl rfl (by omega) rfl ?_
      refine v_goto rfl ?_
      exact ih (j + 1) Mc (by omega) (by omega) (by rw [e2]; exact h1) (by rw [e2]; exact h2) ho
theorem R_lines (hX : RX t M) (k : ∀ M', RLN t M' → oL M M' → Q none M') : v_call L d 222 [(2, 77)] M Q := by
  refine v_in ?_
  refine v_load rfl rfl ⟨rfl, Nat.le_of_ble_eq_true rfl⟩ ?_
  refine v_getp rfl rfl rfl ?_
  refine v_push rfl ?_
  refine v_push rfl ?_
  refine v_ast9 rfl rfl (by decide) ⟨by decide, by show (0 : Int) < 301; decide⟩ ?_
  refine v_load rfl rfl ⟨rfl, Nat.le_of_ble_eq_true rfl⟩ ?_
  refine v_push rfl ?_
  refine v_puti rfl rfl rfl ?_
  refine v_push rfl ?_
  refine v_store rfl ⟨rfl, Nat.le_of_ble_eq_true rfl, Nat.le_of_ble_eq_true rfl, rfl⟩ rfl ?_
  refine R_lines_loop hX k _ 0 _ rfl (Nat.zero_le _) u_eq (fun i hi => ?_) (fun b i b1 b2 => ?_)
  · have : i = 0 := by simp [lnsF] at hi; exact hi
    subst this
    rw [u_n1 (by decide)]
    exact u_eq
  · have h3 : ¬ (b = 77 ∧ i = 49) := fun z => b2 z.1 z.2
    simp only [z_upd]
    rw [if_neg h3, if_neg (by omega)]
theorem R_lineOf_loop {i : Nat} (hR : RLN t M) (hl : t.length ≤ 300) (hi : i ≤ t.length) (k : Q (some (0, nlF t i)) M) : ∀ (n j : Nat), j = n + (nlF t i).toNat → j < (lns t).length → v_wp L d 223 7 [(2, 77), (0, (i : Int)), (0, (j : Int))] [] M Q := by
  intro n
  have hnn := nlF_nn t i
  have hll := lnsF_len t t.length
  have hnt := nlF_nn t t.length
  show ∀ (j : Nat), j = n + (nlF t i).toNat → j < (lnsF t t.length).length → _
  induction n with
  | zero =>
    intro j hj hjl
    have hle := (lns_le t i t.length j hjl).mpr (by omega)
    have h2 := hR.2 j hjl
    refine v_load rfl rfl ⟨rfl, Nat.le_of_ble_eq_true rfl⟩ ?_
    refine v_getp rfl rfl rfl ?_
    refine v_load rfl rfl ⟨rfl, Nat.le_of_ble_eq_true rfl⟩ ?_
    refine v_ald9 rfl rfl ⟨by omega, by show _ < (301 : Int); omega⟩ ?_
    refine v_load rfl rfl ⟨rfl, Nat.le_of_ble_eq_true rfl⟩ ?_
    refine v_ile rfl (fun _ => ?_) (fun h => absurd h (by rw [h2]; unfold lns; omega))
    refine v_load rfl rfl ⟨rfl, Nat.le_of_ble_eq_true rfl⟩ ?_
    refine v_ret rfl rfl ?_
    rw [show (j : Int) = nlF t i by omega]
    exact k
  | succ n ih =>
    intro j hj hjl
    have hle := fun z => (lns_le t i t.length j hjl).mp z
    have h2 := hR.2 j hjl
    refine v_load rfl rfl ⟨rfl, Nat.le_of_ble_eq_true rfl⟩ ?_
    refine v_getp rfl rfl rfl ?_
    refine v_load rfl rfl ⟨rfl, Nat.le_of_ble_eq_true rfl⟩ ?_
    refine v_ald9 rfl rfl ⟨by omega, by show _ < (301 : Int); omega⟩ ?_
    refine v_load rfl rfl ⟨rfl, Nat.le_of_ble_eq_true rfl⟩ ?_
    refine v_ile rfl (fun h => absurd h (by rw [h2]; unfold lns; intro z; have := hle z; omega)) (fun _ => ?_)
    refine v_load rfl rfl ⟨rfl, Nat.le_of_ble_eq_true rfl⟩ ?_
    refine v_push rfl ?_
    refine v_sub rfl (by omega) ?_
    refine v_store rfl ⟨rfl, Nat.le_of_ble_eq_true rfl, Nat.le_of_ble_eq_true rfl, rfl⟩ rfl ?_
    refine v_goto rfl ?_
    rw [show (j : Int) - 1 = ((j - 1 : Nat) : Int) by omega]
    exact ih (j - 1) (by omega) (by omega)
theorem R_lineOf {i : Int} (hR : RLN t M) (hl : t.length ≤ 300) (hi : 0 ≤ i ∧ i ≤ (t.length : Int)) (k : Q (some (0, nlF t i.toNat)) M) : v_call L d 223 [(2, 77), (0, i)] M Q := by
  have hnn := nlF_nn t i.toNat
  have hll := lnsF_len t t.length
  have hnt := nlF_nn t t.length
  have hm := nlF_mono t (m := i.toNat) (n := t.length) (by omega)
  have h1 : M 77 49 = ((lnsF t t.length).length : Int) := hR.1
  refine v_in ?_
  refine v_load rfl rfl ⟨rfl, Nat.le_of_ble_eq_true rfl⟩ ?_
  refine v_getx rfl rfl (h1) ?_
  refine v_push rfl ?_
  refine v_sub rfl (by omega) ?_
  refine v_store rfl ⟨rfl, Nat.le_of_ble_eq_true rfl, Nat.le_of_ble_eq_true rfl, rfl⟩ rfl ?_
  have := R_lineOf_loop (L := L) (d := d) (i := i.toNat) hR hl (by omega) k ((lnsF t t.length).length - 1 - (nlF t i.toNat).toNat) ((lnsF t t.length).length - 1) (by omega) (by unfold lns; omega)
  rw [show ((i.toNat : Nat) : Int) = i by omega, show (((lnsF t t.length).length - 1 : Nat) : Int) = ((lnsF t t.length).length : Int) - 1 by omega] at this
  exact this
end LN
