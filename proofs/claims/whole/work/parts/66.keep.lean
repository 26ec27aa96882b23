/-! WHAT IS KEPT: the class's keeper remembers (methods 25 to 27) -/
def lastI (f : Nat → Bool) : Nat → Int
  | 0 => -1
  | n + 1 => if f n = true then (n : Int) else lastI f n
def firstI (f : Nat → Bool) : Nat → Int
  | 0 => -1
  | n + 1 => if firstI f n = -1 then (if f n = true then (n : Int) else -1) else firstI f n
theorem lastI_ok (f : Nat → Bool) : ∀ n, (lastI f n = -1 ∧ ∀ i, i < n → f i = false) ∨ (∃ i, i < n ∧ lastI f n = (i : Int) ∧ f i = true ∧ ∀ j, i < j → j < n → f j = false)
  | 0 => Or.inl ⟨rfl, fun i hi => absurd hi (Nat.not_lt_zero _)⟩
  | n + 1 => by
    unfold lastI
    by_cases c : f n = true
    · rw [if_pos c]
      exact Or.inr ⟨n, by omega, rfl, c, fun j h1 h2 => absurd h1 (by omega)⟩
    · rw [if_neg c]
      have c' : f n = false := by simpa using c
      rcases lastI_ok f n with ⟨e, h⟩ | ⟨i, hi, e, h1, h2⟩
      · exact Or.inl ⟨e, fun i hi => by by_cases y : i = n; subst y; exact c'; exact h i (by omega)⟩
      · exact Or.inr ⟨i, by omega, e, h1, fun j j1 j2 => by by_cases y : j = n; subst y; exact c'; exact h2 j j1 (by omega)⟩
theorem firstI_ok (f : Nat → Bool) : ∀ n, (firstI f n = -1 ∧ ∀ i, i < n → f i = false) ∨ (∃ i, i < n ∧ firstI f n = (i : Int) ∧ f i = true ∧ ∀ j, j < i → f j = false)
  | 0 => Or.inl ⟨rfl, fun i hi => absurd hi (Nat.not_lt_zero _)⟩
  | n + 1 => by
    unfold firstI
    rcases firstI_ok f n with ⟨e, h⟩ | ⟨i, hi, e, h1, h2⟩
    · rw [if_pos e]
      by_cases c : f n = true
      · rw [if_pos c]
        exact Or.inr ⟨n, by omega, rfl, c, h⟩
      · rw [if_neg c]
        have c' : f n = false := by simpa using c
        exact Or.inl ⟨rfl, fun i hi => by by_cases y : i = n; subst y; exact c'; exact h i (by omega)⟩
    · rw [if_neg (by omega)]
      exact Or.inr ⟨i, by omega, e, h1, h2⟩
def fstT (T : List zT) (p : Int) (i : Nat) : Bool := decide ((T.getD i t0).2.1 = p)
def frmN (N : List zQ) (p : Int) (i : Nat) : Bool := decide ((N.getD i n0).2.2.2.2.2.1 = p)
/-- what the keeper remembers -/
def OCT (T : List zT) (n : Nat) (M : zM) : Prop := (∀ i : Nat, i < n → M 63 (i : Int) = (T.getD i t0).1 ∧ M 64 (i : Int) = (T.getD i t0).2.2.1 - (T.getD i t0).2.1 ∧ M 65 (i : Int) = (T.getD i t0).2.2.2.1) ∧ ∀ p, 0 ≤ p → p < 300 → M 66 p = lastI (fstT T p) n
def OCN (N : List zQ) (n : Nat) (M : zM) : Prop := (∀ i : Nat, i < n → M 67 (i : Int) = (N.getD i n0).1 ∧ M 68 (i : Int) = (N.getD i n0).2.2.2.2.2.1 ∧ M 69 (i : Int) = (N.getD i n0).2.2.2.2.2.2.1) ∧ ∀ p, 0 ≤ p → p < 301 → M 70 p = firstI (frmN N p) n
def OC (T : List zT) (N : List zQ) (M : zM) : Prop := M 62 6 = (T.length : Int) ∧ OCT T T.length M ∧ M 62 11 = (N.length : Int) ∧ OCN N N.length M
theorem z_oR_u {lo hi b j x : Int} {M : zM} (h : lo ≤ b ∧ b ≤ hi) : z_oR lo hi M (z_upd M b j x) := fun c i hc => u_n1 (by omega)
section KP1
variable {L d : Nat} {M : zM} {Q : Option zV → zM → Prop} {T : List zT} {N : List zQ}
theorem S_remT_zero (M0 : zM) (k : ∀ M', (∀ p, 0 ≤ p → p < 300 → M' 66 p = -1) → (∀ b j, b ≠ 66 → M' b j = M0 b j) → v_wp L d 26 41 [(2, 62), (0, 300), (9, 0)] [] M' Q) : ∀ (n : Nat) (j : Int) (Mc : zM), n = (300 - j).toNat → 0 ≤ j → j ≤ 300 → (∀ p, 0 ≤ p → p < j → Mc 66 p = -1) → (∀ b i, b ≠ 66 → Mc b i = M0 b i) → v_wp L d 26 19 [(2, 62), (0, j), (9, 0)] [] Mc Q := by
  intro n
  induction n with
  | zero =>
    intro j Mc hn h0 h1 hz ho
    have ej : j = 300 := by omega
    subst ej
    refine v_load rfl rfl ⟨rfl, Nat.le_of_ble_eq_true rfl⟩ ?_
    refine v_load rfl rfl ⟨rfl, Nat.le_of_ble_eq_true rfl⟩ ?_
    refine v_getp rfl rfl rfl ?_
    refine v_len rfl ⟨Nat.le_of_ble_eq_true rfl, Nat.le_of_ble_eq_true rfl⟩ rfl ?_
    refine v_ige rfl (fun _ => ?_) (fun h => absurd h (by show ¬ (300 : Int) < 300; decide))
    exact k Mc hz ho
  | succ n ih =>
    intro j Mc hn h0 h1 hz ho
    refine v_load rfl rfl ⟨rfl, Nat.le_of_ble_eq_true rfl⟩ ?_
    refine v_load rfl rfl ⟨rfl, Nat.le_of_ble_eq_true rfl⟩ ?_
    refine v_getp rfl rfl rfl ?_
    refine v_len rfl ⟨Nat.le_of_ble_eq_true rfl, Nat.le_of_ble_eq_true rfl⟩ rfl ?_
    refine v_ige rfl (fun h => absurd h (by show ¬ (300 : Int) ≤ j; omega)) (fun _ => ?_)
    refine v_load rfl rfl ⟨rfl, Nat.le_of_ble_eq_true rfl⟩ ?_
    refine v_getp rfl rfl rfl ?_
    refine v_load rfl rfl ⟨rfl, Nat.le_of_ble_eq_true rfl⟩ ?_
    refine v_push rfl ?_
    refine v_ast9 rfl rfl (by decide) ⟨by omega, by show _ < (300 : Int); omega⟩ ?_
    refine v_iinc rfl rfl rfl (by omega) rfl ?_
    refine v_goto rfl ?_
    refine ih (j + 1) _ (by omega) (by omega) (by omega) (fun s s0 s1 => ?_) (fun b i hb => by rw [u_n1 hb]; exact ho b i hb)
    by_cases e : s = j
    · rw [e, u_eq]
    · rw [u_n2 e]; exact hz s s0 (by omega)
theorem S_remT_loop (M0 : zM) (h6 : M0 62 6 = (T.length : Int)) (hRT : RT T M0) (hf : ∀ i : Nat, i < T.length → 0 ≤ (T.getD i t0).2.1 ∧ (T.getD i t0).2.1 < 300 ∧ (T.getD i t0).2.1 ≤ (T.getD i t0).2.2.1 ∧ (T.getD i t0).2.2.1 ≤ 300) (k : ∀ M', OCT T T.length M' → z_oR 63 66 M0 M' → Q none M') : ∀ (n j : Nat) (w : zV) (Mc : zM), n = T.length - j → j ≤ T.length → OCT T j Mc → z_oR 63 66 M0 Mc → v_wp L (d + 2) 26 43 [(2, 62), (0, (j : Int)), w] [] Mc Q := by
  intro n
  induction n with
  | zero =>
    intro j w Mc hn hj hO ho
    have ej : j = T.length := by omega
    subst ej
    have p6 : Mc 62 6 = (T.length : Int) := (ho 62 6 (by decide)).trans h6
    refine v_load rfl rfl ⟨rfl, Nat.le_of_ble_eq_true rfl⟩ ?_
    refine v_load rfl rfl ⟨rfl, Nat.le_of_ble_eq_true rfl⟩ ?_
    refine v_getx rfl rfl (p6) ?_
    refine v_ige rfl (fun _ => ?_) (fun h => absurd h (by omega))
    refine v_ret rfl rfl ?_
    exact k Mc hO ho
  | succ n ih =>
    intro j w Mc hn hj hO ho
    have p6 : Mc 62 6 = (T.length : Int) := (ho 62 6 (by decide)).trans h6
    have hRc : RT T Mc := RT_oR hRT ho (by decide)
    have hl := hRT.2.1
    have hjl : j < T.length := by omega
    have etk : tk T (j : Int) = T.getD j t0 := tk_in ⟨by omega, by omega⟩
    obtain ⟨f0, f1, f2, f3⟩ := hf j hjl
    obtain ⟨o1, o2⟩ := hO
    refine v_load rfl rfl ⟨rfl, Nat.le_of_ble_eq_true rfl⟩ ?_
    refine v_load rfl rfl ⟨rfl, Nat.le_of_ble_eq_true rfl⟩ ?_
    refine v_getx rfl rfl (p6) ?_
    refine v_ige rfl (fun h => absurd h (by omega)) (fun _ => ?_)
    refine v_load rfl rfl ⟨rfl, Nat.le_of_ble_eq_true rfl⟩ ?_
    refine v_getp rfl rfl rfl ?_
    refine v_load rfl rfl ⟨rfl, Nat.le_of_ble_eq_true rfl⟩ ?_
    refine v_callr rfl ⟨Nat.le_of_ble_eq_true rfl, Nat.le_of_ble_eq_true rfl, rfl, Nat.le_of_ble_eq_true rfl, rfl⟩ ?_
    refine S_tkFirst hRc ?_
    rw [etk]
    refine v_store rfl ⟨rfl, Nat.le_of_ble_eq_true rfl, Nat.le_of_ble_eq_true rfl, rfl⟩ rfl ?_
    refine v_load rfl rfl ⟨rfl, Nat.le_of_ble_eq_true rfl⟩ ?_
    refine v_getp rfl rfl rfl ?_
    refine v_load rfl rfl ⟨rfl, Nat.le_of_ble_eq_true rfl⟩ ?_
    refine v_load rfl rfl ⟨rfl, Nat.le_of_ble_eq_true rfl⟩ ?_
    refine v_getp rfl rfl rfl ?_
    refine v_load rfl rfl ⟨rfl, Nat.le_of_ble_eq_true rfl⟩ ?_
    refine v_callr rfl ⟨Nat.le_of_ble_eq_true rfl, Nat.le_of_ble_eq_true rfl, rfl, Nat.le_of_ble_eq_true rfl, rfl⟩ ?_
    refine S_tkSort hRc ?_
    rw [etk]
    refine v_ast9 rfl rfl (by decide) ⟨by omega, by show _ < (300 : Int); omega⟩ ?_
    refine v_load rfl rfl ⟨rfl, Nat.le_of_ble_eq_true rfl⟩ ?_
    refine v_getp rfl rfl rfl ?_
    refine v_load rfl rfl ⟨rfl, Nat.le_of_ble_eq_true rfl⟩ ?_
    refine v_load rfl rfl ⟨rfl, Nat.le_of_ble_eq_true rfl⟩ ?_
    refine v_getp rfl rfl rfl ?_
    refine v_load rfl rfl ⟨rfl, Nat.le_of_ble_eq_true rfl⟩ ?_
    refine v_callr rfl ⟨Nat.le_of_ble_eq_true rfl, Nat.le_of_ble_eq_true rfl, rfl, Nat.le_of_ble_eq_true rfl, rfl⟩ ?_
    refine S_tkEnd (RT_oR (lo := 63) (hi := 66) hRc (z_oR_u (by decide)) (by decide)) ?_
    rw [etk]
    refine v_load rfl rfl ⟨rfl, Nat.le_of_ble_eq_true rfl⟩ ?_
    refine v_sub rfl (by omega) ?_
    refine v_ast9 rfl rfl (by decide) ⟨by omega, by show _ < (300 : Int); omega⟩ ?_
    refine v_load rfl rfl ⟨rfl, Nat.le_of_ble_eq_true rfl⟩ ?_
    refine v_getp rfl rfl rfl ?_
    refine v_load rfl rfl ⟨rfl, Nat.le_of_ble_eq_true rfl⟩ ?_
    refine v_load rfl rfl ⟨rfl, Nat.le_of_ble_eq_true rfl⟩ ?_
    refine v_getp rfl rfl rfl ?_
    refine v_load rfl rfl ⟨rfl, Nat.le_of_ble_eq_true rfl⟩ ?_
    refine v_callr rfl ⟨Nat.le_of_ble_eq_true rfl, Nat.le_of_ble_eq_true rfl, rfl, Nat.le_of_ble_eq_true rfl, rfl⟩ ?_
    refine S_tkRead (RT_oR (lo := 63) (hi := 66) hRc (z_oR_tr (z_oR_u (by decide)) (z_oR_u (by decide))) (by decide)) ?_
    rw [etk]
    refine v_ast9 rfl rfl (by decide) ⟨by omega, by show _ < (300 : Int); omega⟩ ?_
    refine v_load rfl rfl ⟨rfl, Nat.le_of_ble_eq_true rfl⟩ ?_
    refine v_iflt rfl (fun h => absurd h (by omega)) (fun _ => ?_)
    refine v_load rfl rfl ⟨rfl, Nat.le_of_ble_eq_true rfl⟩ ?_
    refine v_load rfl rfl ⟨rfl, Nat.le_of_ble_eq_true rfl⟩ ?_
    refine v_getp rfl rfl rfl ?_
    refine v_len rfl ⟨Nat.le_of_ble_eq_true rfl, Nat.le_of_ble_eq_true rfl⟩ rfl ?_
    refine v_ige rfl (fun h => absurd h (by show ¬ (300 : Int) ≤ _; omega)) (fun _ => ?_)
    refine v_load rfl rfl ⟨rfl, Nat.le_of_ble_eq_true rfl⟩ ?_
    refine v_getp rfl rfl rfl ?_
    refine v_load rfl rfl ⟨rfl, Nat.le_of_ble_eq_true rfl⟩ ?_
    refine v_load rfl rfl ⟨rfl, Nat.le_of_ble_eq_true rfl⟩ ?_
    refine v_ast9 rfl rfl (by decide) ⟨by omega, by show _ < (300 : Int); omega⟩ ?_
    refine v_iinc rfl rfl rfl (by omega) rfl ?_
    refine v_goto rfl ?_
    refine ih (j + 1) _ _ (by omega) (by omega) ⟨fun i hi => ?_, fun p q0 q1 => ?_⟩ (z_oR_tr ho (z_oR_tr (z_oR_u (by decide)) (z_oR_tr (z_oR_u (by decide)) (z_oR_tr (z_oR_u (by decide)) (z_oR_u (by decide))))))
    · by_cases e : i = j
      · subst e
        simp (disch := decide) only [u_n1, u_eq, and_self]
      · have := o1 i (by omega)
        have hne : (i : Int) ≠ (j : Int) := by omega
        simp (disch := first | decide | assumption) only [u_n1, u_n2]
        exact this
    · show _ = if fstT T p j = true then (j : Int) else lastI (fstT T p) j
      unfold fstT
      by_cases e : (T.getD j t0).2.1 = p
      · rw [if_pos (by simpa using e), ← e, u_eq]
      · rw [if_neg (by simpa using e), u_n2 (fun z => e z.symm)]
        simp (disch := decide) only [u_n1]
        exact o2 p q0 q1
theorem S_remTok (hRT : RT T M) (hf : ∀ i : Nat, i < T.length → 0 ≤ (T.getD i t0).2.1 ∧ (T.getD i t0).2.1 < 300 ∧ (T.getD i t0).2.1 ≤ (T.getD i t0).2.2.1 ∧ (T.getD i t0).2.2.1 ≤ 300) (k : ∀ M', M' 62 6 = (T.length : Int) → OCT T T.length M' → (∀ b j, ¬ (63 ≤ b ∧ b ≤ 66) → (b = 62 → j ≠ 6) → M' b j = M b j) → Q none M') : v_call L (d + 2) 26 [(2, 62)] M Q := by
  have hl := hRT.2.1
  refine v_in ?_
  refine v_load rfl rfl ⟨rfl, Nat.le_of_ble_eq_true rfl⟩ ?_
  refine v_load rfl rfl ⟨rfl, Nat.le_of_ble_eq_true rfl⟩ ?_
  refine v_getp rfl rfl rfl ?_
  refine v_callr rfl ⟨Nat.le_of_ble_eq_true rfl, Nat.le_of_ble_eq_true rfl, rfl, Nat.le_of_ble_eq_true rfl, rfl⟩ ?_
  refine S_tkSize hRT ?_
  refine v_push rfl ?_
  refine v_min rfl (by decide) ?_
  rw [if_neg (show ¬ (300 : Int) < (T.length : Int) by omega)]
  refine v_puti rfl rfl rfl ?_
  refine v_push rfl ?_
  refine v_store rfl ⟨rfl, Nat.le_of_ble_eq_true rfl, Nat.le_of_ble_eq_true rfl, rfl⟩ rfl ?_
  have h6 : z_upd M 62 6 (T.length : Int) 62 6 = (T.length : Int) := u_eq
  have hR1 : RT T (z_upd M 62 6 (T.length : Int)) := RT_oR (lo := 62) (hi := 62) hRT (z_oR_u (by decide)) (by decide)
  refine S_remT_zero _ (fun M1 z1 o1 => ?_) _ 0 _ rfl (by decide) (by decide) (fun p p0 p1 => absurd p1 (by omega)) (fun _ _ _ => rfl)
  have o1' : z_oR 66 66 (z_upd M 62 6 (T.length : Int)) M1 := fun b j hb => o1 b j (by omega)
  refine v_push rfl ?_
  refine v_store rfl ⟨rfl, Nat.le_of_ble_eq_true rfl, Nat.le_of_ble_eq_true rfl, rfl⟩ rfl ?_
  refine S_remT_loop M1 (by rw [o1 62 6 (by decide)]; exact h6) (RT_oR hR1 o1' (by decide)) hf (fun M2 q2 o2 => ?_) _ 0 _ M1 rfl (Nat.zero_le _) ⟨fun i hi => absurd hi (Nat.not_lt_zero _), z1⟩ z_oR_rf
  refine k M2 (by rw [o2 62 6 (by decide), o1 62 6 (by decide)]; exact h6) q2 (fun b j h1 h2 => ?_)
  have h3 : ¬ (b = 62 ∧ j = 6) := fun z => h2 z.1 z.2
  rw [o2 b j h1, o1 b j (by omega)]
  simp only [z_upd]
  rw [if_neg h3]
theorem S_remN_zero (M0 : zM) (k : ∀ M', (∀ p, 0 ≤ p → p < 301 → M' 70 p = -1) → (∀ b j, b ≠ 70 → M' b j = M0 b j) → v_wp L d 27 41 [(2, 62), (0, 301), (9, 0)] [] M' Q) : ∀ (n : Nat) (j : Int) (Mc : zM), n = (301 - j).toNat → 0 ≤ j → j ≤ 301 → (∀ p, 0 ≤ p → p < j → Mc 70 p = -1) → (∀ b i, b ≠ 70 → Mc b i = M0 b i) → v_wp L d 27 19 [(2, 62), (0, j), (9, 0)] [] Mc Q := by
  intro n
  induction n with
  | zero =>
    intro j Mc hn h0 h1 hz ho
    have ej : j = 301 := by omega
    subst ej
    refine v_load rfl rfl ⟨rfl, Nat.le_of_ble_eq_true rfl⟩ ?_
    refine v_load rfl rfl ⟨rfl, Nat.le_of_ble_eq_true rfl⟩ ?_
    refine v_getp rfl rfl rfl ?_
    refine v_len rfl ⟨Nat.le_of_ble_eq_true rfl, Nat.le_of_ble_eq_true rfl⟩ rfl ?_
    refine v_ige rfl (fun _ => ?_) (fun h => absurd h (by show ¬ (301 : Int) < 301; decide))
    exact k Mc hz ho
  | succ n ih =>
    intro j Mc hn h0 h1 hz ho
    refine v_load rfl rfl ⟨rfl, Nat.le_of_ble_eq_true rfl⟩ ?_
    refine v_load rfl rfl ⟨rfl, Nat.le_of_ble_eq_true rfl⟩ ?_
    refine v_getp rfl rfl rfl ?_
    refine v_len rfl ⟨Nat.le_of_ble_eq_true rfl, Nat.le_of_ble_eq_true rfl⟩ rfl ?_
    refine v_ige rfl (fun h => absurd h (by show ¬ (301 : Int) ≤ j; omega)) (fun _ => ?_)
    refine v_load rfl rfl ⟨rfl, Nat.le_of_ble_eq_true rfl⟩ ?_
    refine v_getp rfl rfl rfl ?_
    refine v_load rfl rfl ⟨rfl, Nat.le_of_ble_eq_true rfl⟩ ?_
    refine v_push rfl ?_
    refine v_ast9 rfl rfl (by decide) ⟨by omega, by show _ < (301 : Int); omega⟩ ?_
    refine v_iinc rfl rfl rfl (by omega) rfl ?_
    refine v_goto rfl ?_
    refine ih (j + 1) _ (by omega) (by omega) (by omega) (fun s s0 s1 => ?_) (fun b i hb => by rw [u_n1 hb]; exact ho b i hb)
    by_cases e : s = j
    · rw [e, u_eq]
    · rw [u_n2 e]; exact hz s s0 (by omega)
theorem S_remN_loop (M0 : zM) (h6 : M0 62 11 = (N.length : Int)) (hRN : RN N M0) (hf : ∀ i : Nat, i < N.length → 0 ≤ (N.getD i n0).2.2.2.2.2.1 ∧ (N.getD i n0).2.2.2.2.2.1 < 301) (k : ∀ M', OCN N N.length M' → z_oR 67 70 M0 M' → Q none M') : ∀ (n j : Nat) (w : zV) (Mc : zM), n = N.length - j → j ≤ N.length → OCN N j Mc → z_oR 67 70 M0 Mc → v_wp L (d + 2) 27 43 [(2, 62), (0, (j : Int)), w] [] Mc Q := by
  intro n
  induction n with
  | zero =>
    intro j w Mc hn hj hO ho
    have ej : j = N.length := by omega
    subst ej
    have p6 : Mc 62 11 = (N.length : Int) := (ho 62 11 (by decide)).trans h6
    refine v_load rfl rfl ⟨rfl, Nat.le_of_ble_eq_true rfl⟩ ?_
    refine v_load rfl rfl ⟨rfl, Nat.le_of_ble_eq_true rfl⟩ ?_
    refine v_getx rfl rfl (p6) ?_
    refine v_ige rfl (fun _ => ?_) (fun h => absurd h (by omega))
    refine v_ret rfl rfl ?_
    exact k Mc hO ho
  | succ n ih =>
    intro j w Mc hn hj hO ho
    have p6 : Mc 62 11 = (N.length : Int) := (ho 62 11 (by decide)).trans h6
    have hRc : RN N Mc := RN_oR hRN ho (by decide)
    have hl := hRN.2.1
    have hjl : j < N.length := by omega
    have etk : nd N (j : Int) = N.getD j n0 := nd_nat hjl
    obtain ⟨f0, f1⟩ := hf j hjl
    obtain ⟨o1, o2⟩ := hO
    have o2j := o2 _ f0 f1
    have nxt : ∀ (w : zV) (v : Int), v = firstI (frmN N (N.getD j n0).2.2.2.2.2.1) (j + 1) → v_wp L (d + 2) 27 125 [(2, 62), (0, (j : Int)), w] [] (z_upd (z_upd (z_upd (z_upd Mc 67 (j : Int) (N.getD j n0).1) 68 (j : Int) (N.getD j n0).2.2.2.2.2.1) 69 (j : Int) (N.getD j n0).2.2.2.2.2.2.1) 70 (N.getD j n0).2.2.2.2.2.1 v) Q := by
      intro w v hv
      refine v_iinc rfl rfl rfl (by omega) rfl ?_
      refine v_goto rfl ?_
      refine ih (j + 1) _ _ (by omega) (by omega) ⟨fun i hi => ?_, fun p q0 q1 => ?_⟩ (z_oR_tr ho (z_oR_tr (z_oR_u (by decide)) (z_oR_tr (z_oR_u (by decide)) (z_oR_tr (z_oR_u (by decide)) (z_oR_u (by decide))))))
      · by_cases e : i = j
        · subst e
          simp (disch := decide) only [u_n1, u_eq, and_self]
        · have := o1 i (by omega)
          have hne : (i : Int) ≠ (j : Int) := by omega
          simp (disch := first | decide | assumption) only [u_n1, u_n2]
          exact this
      · by_cases e : (N.getD j n0).2.2.2.2.2.1 = p
        · rw [← e, u_eq]; exact hv
        · rw [u_n2 (fun z => e z.symm)]
          simp (disch := decide) only [u_n1]
          rw [o2 p q0 q1]
          show _ = if firstI (frmN N p) j = -1 then (if frmN N p j = true then (j : Int) else -1) else firstI (frmN N p) j
          by_cases c : firstI (frmN N p) j = -1
          · rw [if_pos c, if_neg (by unfold frmN; simpa using e), c]
          · rw [if_neg c]
    refine v_load rfl rfl ⟨rfl, Nat.le_of_ble_eq_true rfl⟩ ?_
    refine v_load rfl rfl ⟨rfl, Nat.le_of_ble_eq_true rfl⟩ ?_
    refine v_getx rfl rfl (p6) ?_
    refine v_ige rfl (fun h => absurd h (by omega)) (fun _ => ?_)
    refine v_load rfl rfl ⟨rfl, Nat.le_of_ble_eq_true rfl⟩ ?_
    refine v_getp rfl rfl rfl ?_
    refine v_load rfl rfl ⟨rfl, Nat.le_of_ble_eq_true rfl⟩ ?_
    refine v_callr rfl ⟨Nat.le_of_ble_eq_true rfl, Nat.le_of_ble_eq_true rfl, rfl, Nat.le_of_ble_eq_true rfl, rfl⟩ ?_
    refine S_ndFrom hRc ?_
    rw [etk]
    refine v_store rfl ⟨rfl, Nat.le_of_ble_eq_true rfl, Nat.le_of_ble_eq_true rfl, rfl⟩ rfl ?_
    refine v_load rfl rfl ⟨rfl, Nat.le_of_ble_eq_true rfl⟩ ?_
    refine v_getp rfl rfl rfl ?_
    refine v_load rfl rfl ⟨rfl, Nat.le_of_ble_eq_true rfl⟩ ?_
    refine v_load rfl rfl ⟨rfl, Nat.le_of_ble_eq_true rfl⟩ ?_
    refine v_getp rfl rfl rfl ?_
    refine v_load rfl rfl ⟨rfl, Nat.le_of_ble_eq_true rfl⟩ ?_
    refine v_callr rfl ⟨Nat.le_of_ble_eq_true rfl, Nat.le_of_ble_eq_true rfl, rfl, Nat.le_of_ble_eq_true rfl, rfl⟩ ?_
    refine S_ndSort hRc ?_
    rw [etk]
    refine v_ast9 rfl rfl (by decide) ⟨by omega, by show _ < (1216 : Int); omega⟩ ?_
    refine v_load rfl rfl ⟨rfl, Nat.le_of_ble_eq_true rfl⟩ ?_
    refine v_getp rfl rfl rfl ?_
    refine v_load rfl rfl ⟨rfl, Nat.le_of_ble_eq_true rfl⟩ ?_
    refine v_load rfl rfl ⟨rfl, Nat.le_of_ble_eq_true rfl⟩ ?_
    refine v_ast9 rfl rfl (by decide) ⟨by omega, by show _ < (1216 : Int); omega⟩ ?_
    refine v_load rfl rfl ⟨rfl, Nat.le_of_ble_eq_true rfl⟩ ?_
    refine v_getp rfl rfl rfl ?_
    refine v_load rfl rfl ⟨rfl, Nat.le_of_ble_eq_true rfl⟩ ?_
    refine v_load rfl rfl ⟨rfl, Nat.le_of_ble_eq_true rfl⟩ ?_
    refine v_getp rfl rfl rfl ?_
    refine v_load rfl rfl ⟨rfl, Nat.le_of_ble_eq_true rfl⟩ ?_
    refine v_callr rfl ⟨Nat.le_of_ble_eq_true rfl, Nat.le_of_ble_eq_true rfl, rfl, Nat.le_of_ble_eq_true rfl, rfl⟩ ?_
    refine S_ndTaken (RN_oR (lo := 67) (hi := 70) hRc (z_oR_tr (z_oR_u (by decide)) (z_oR_u (by decide))) (by decide)) ?_
    rw [etk]
    refine v_ast9 rfl rfl (by decide) ⟨by omega, by show _ < (1216 : Int); omega⟩ ?_
    refine v_load rfl rfl ⟨rfl, Nat.le_of_ble_eq_true rfl⟩ ?_
    refine v_iflt rfl (fun h => absurd h (by omega)) (fun _ => ?_)
    refine v_load rfl rfl ⟨rfl, Nat.le_of_ble_eq_true rfl⟩ ?_
    refine v_load rfl rfl ⟨rfl, Nat.le_of_ble_eq_true rfl⟩ ?_
    refine v_getp rfl rfl rfl ?_
    refine v_len rfl ⟨Nat.le_of_ble_eq_true rfl, Nat.le_of_ble_eq_true rfl⟩ rfl ?_
    refine v_ige rfl (fun h => absurd h (by show ¬ (301 : Int) ≤ _; omega)) (fun _ => ?_)
    refine v_load rfl rfl ⟨rfl, Nat.le_of_ble_eq_true rfl⟩ ?_
    refine v_getp rfl rfl rfl ?_
    refine v_load rfl rfl ⟨rfl, Nat.le_of_ble_eq_true rfl⟩ ?_
    have x70 : z_upd (z_upd (z_upd Mc 67 (j : Int) (N.getD j n0).1) 68 (j : Int) (N.getD j n0).2.2.2.2.2.1) 69 (j : Int) (N.getD j n0).2.2.2.2.2.2.1 70 (N.getD j n0).2.2.2.2.2.1 = firstI (frmN N (N.getD j n0).2.2.2.2.2.1) j := by simp (disch := decide) only [u_n1]; exact o2j
    have ff : frmN N (N.getD j n0).2.2.2.2.2.1 j = true := by unfold frmN; simp
    by_cases c : firstI (frmN N (N.getD j n0).2.2.2.2.2.1) j = -1
    · refine v_ald9 rfl rfl ⟨by omega, by show _ < (301 : Int); omega⟩ ?_
      rw [x70]
      refine v_push rfl ?_
      refine v_ine rfl (fun h => absurd h (fun z => z c)) (fun _ => ?_)
      refine v_load rfl rfl ⟨rfl, Nat.le_of_ble_eq_true rfl⟩ ?_
      refine v_getp rfl rfl rfl ?_
      refine v_load rfl rfl ⟨rfl, Nat.le_of_ble_eq_true rfl⟩ ?_
      refine v_load rfl rfl ⟨rfl, Nat.le_of_ble_eq_true rfl⟩ ?_
      refine v_ast9 rfl rfl (by decide) ⟨by omega, by show _ < (301 : Int); omega⟩ ?_
      refine nxt _ _ ?_
      show _ = if firstI (frmN N _) j = -1 then (if frmN N _ j = true then (j : Int) else -1) else _
      rw [if_pos c, if_pos ff]
    · refine v_ald9 rfl rfl ⟨by omega, by show _ < (301 : Int); omega⟩ ?_
      rw [x70]
      refine v_push rfl ?_
      refine v_ine rfl (fun _ => ?_) (fun h => absurd h (c))
      have := nxt (0, (N.getD j n0).2.2.2.2.2.1) (firstI (frmN N (N.getD j n0).2.2.2.2.2.1) j) (by
        show _ = if firstI (frmN N _) j = -1 then (if frmN N _ j = true then (j : Int) else -1) else _
        rw [if_neg c])
      have e : z_upd (z_upd (z_upd (z_upd Mc 67 (j : Int) (N.getD j n0).1) 68 (j : Int) (N.getD j n0).2.2.2.2.2.1) 69 (j : Int) (N.getD j n0).2.2.2.2.2.2.1) 70 (N.getD j n0).2.2.2.2.2.1 (firstI (frmN N (N.getD j n0).2.2.2.2.2.1) j) = z_upd (z_upd (z_upd Mc 67 (j : Int) (N.getD j n0).1) 68 (j : Int) (N.getD j n0).2.2.2.2.2.1) 69 (j : Int) (N.getD j n0).2.2.2.2.2.2.1 := by
        funext b i
        by_cases y : b = 70 ∧ i = (N.getD j n0).2.2.2.2.2.1
        · obtain ⟨rfl, rfl⟩ := y
          rw [u_eq, x70]
        · generalize z_upd (z_upd (z_upd Mc 67 (j : Int) (N.getD j n0).1) 68 (j : Int) (N.getD j n0).2.2.2.2.2.1) 69 (j : Int) (N.getD j n0).2.2.2.2.2.2.1 = W
          show (if b = 70 ∧ i = _ then _ else W b i) = W b i
          rw [if_neg y]
      rw [e] at this
      exact this
theorem S_remNod (hRN : RN N M) (hf : ∀ i : Nat, i < N.length → 0 ≤ (N.getD i n0).2.2.2.2.2.1 ∧ (N.getD i n0).2.2.2.2.2.1 < 301) (k : ∀ M', M' 62 11 = (N.length : Int) → OCN N N.length M' → (∀ b j, ¬ (67 ≤ b ∧ b ≤ 70) → (b = 62 → j ≠ 11) → M' b j = M b j) → Q none M') : v_call L (d + 2) 27 [(2, 62)] M Q := by
  have hl := hRN.2.1
  refine v_in ?_
  refine v_load rfl rfl ⟨rfl, Nat.le_of_ble_eq_true rfl⟩ ?_
  refine v_load rfl rfl ⟨rfl, Nat.le_of_ble_eq_true rfl⟩ ?_
  refine v_getp rfl rfl rfl ?_
  refine v_callr rfl ⟨Nat.le_of_ble_eq_true rfl, Nat.le_of_ble_eq_true rfl, rfl, Nat.le_of_ble_eq_true rfl, rfl⟩ ?_
  refine S_ndSize hRN ?_
  refine v_push rfl ?_
  refine v_min rfl (by decide) ?_
  rw [if_neg (show ¬ (1216 : Int) < (N.length : Int) by omega)]
  refine v_puti rfl rfl rfl ?_
  refine v_push rfl ?_
  refine v_store rfl ⟨rfl, Nat.le_of_ble_eq_true rfl, Nat.le_of_ble_eq_true rfl, rfl⟩ rfl ?_
  have h6 : z_upd M 62 11 (N.length : Int) 62 11 = (N.length : Int) := u_eq
  have hR1 : RN N (z_upd M 62 11 (N.length : Int)) := RN_oR (lo := 62) (hi := 62) hRN (z_oR_u (by decide)) (by decide)
  refine S_remN_zero _ (fun M1 z1 o1 => ?_) _ 0 _ rfl (by decide) (by decide) (fun p p0 p1 => absurd p1 (by omega)) (fun _ _ _ => rfl)
  have o1' : z_oR 70 70 (z_upd M 62 11 (N.length : Int)) M1 := fun b j hb => o1 b j (by omega)
  refine v_push rfl ?_
  refine v_store rfl ⟨rfl, Nat.le_of_ble_eq_true rfl, Nat.le_of_ble_eq_true rfl, rfl⟩ rfl ?_
  refine S_remN_loop M1 (by rw [o1 62 11 (by decide)]; exact h6) (RN_oR hR1 o1' (by decide)) hf (fun M2 q2 o2 => ?_) _ 0 _ M1 rfl (Nat.zero_le _) ⟨fun i hi => absurd hi (Nat.not_lt_zero _), z1⟩ z_oR_rf
  refine k M2 (by rw [o2 62 11 (by decide), o1 62 11 (by decide)]; exact h6) q2 (fun b j h1 h2 => ?_)
  have h3 : ¬ (b = 62 ∧ j = 11) := fun z => h2 z.1 z.2
  rw [o2 b j h1, o1 b j (by omega)]
  simp only [z_upd]
  rw [if_neg h3]
theorem S_remember (hRT : RT T M) (hRN : RN N M) (hf : ∀ i : Nat, i < T.length → 0 ≤ (T.getD i t0).2.1 ∧ (T.getD i t0).2.1 < 300 ∧ (T.getD i t0).2.1 ≤ (T.getD i t0).2.2.1 ∧ (T.getD i t0).2.2.1 ≤ 300) (hg : ∀ i : Nat, i < N.length → 0 ≤ (N.getD i n0).2.2.2.2.2.1 ∧ (N.getD i n0).2.2.2.2.2.1 < 301) (k : ∀ M', OC T N M' → (∀ b j, ¬ (63 ≤ b ∧ b ≤ 70) → (b = 62 → j ≠ 6 ∧ j ≠ 11) → M' b j = M b j) → Q none M') : v_call L (d + 3) 25 [(2, 62)] M Q := by
  refine v_in ?_
  refine v_load rfl rfl ⟨rfl, Nat.le_of_ble_eq_true rfl⟩ ?_
  refine v_callr rfl ⟨Nat.le_of_ble_eq_true rfl, Nat.le_of_ble_eq_true rfl, rfl, Nat.le_of_ble_eq_true rfl, rfl⟩ ?_
  refine S_remTok hRT hf (fun M1 a1 a2 a3 => ?_)
  refine v_load rfl rfl ⟨rfl, Nat.le_of_ble_eq_true rfl⟩ ?_
  refine v_callr rfl ⟨Nat.le_of_ble_eq_true rfl, Nat.le_of_ble_eq_true rfl, rfl, Nat.le_of_ble_eq_true rfl, rfl⟩ ?_
  refine S_remNod (RN_oR (lo := 62) (hi := 66) hRN (fun b j hb => a3 b j (by omega) (by omega)) (by decide)) hg (fun M2 c1 c2 c3 => ?_)
  refine v_ret rfl rfl ?_
  refine k M2 ⟨by rw [c3 62 6 (by decide) (by decide)]; exact a1, ⟨fun i hi => ?_, fun p p0 p1 => ?_⟩, c1, c2⟩ (fun b j h1 h2 => ?_)
  · rw [c3 63 _ (by decide) (by omega), c3 64 _ (by decide) (by omega), c3 65 _ (by decide) (by omega)]; exact a2.1 i hi
  · rw [c3 66 _ (by decide) (by omega)]; exact a2.2 p p0 p1
  · rw [c3 b j (by omega) (fun e => (h2 e).2), a3 b j (by omega) (fun e => (h2 e).1)]
end KP1
