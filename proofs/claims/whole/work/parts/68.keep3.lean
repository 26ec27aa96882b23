/-! WHAT IS KEPT: runs of tokens, nodes -/
/-- how many from i on are kept side by side, where there are n: k = n - i -/
def rnK (O : Nat → Int) (n : Nat) : Nat → Int
  | 0 => 0
  | k + 1 => if O (n - (k + 1)) = -1 then 0 else if 0 < k ∧ O (n - k) = O (n - (k + 1)) + 1 then rnK O n k + 1 else 1
theorem rnK_nn (O : Nat → Int) (n : Nat) : ∀ k, 0 ≤ rnK O n k ∧ rnK O n k ≤ (k : Int)
  | 0 => ⟨Int.le_refl _, Int.le_refl _⟩
  | k + 1 => by
    have := rnK_nn O n k
    unfold rnK
    repeat' split
    all_goals omega
/-- tokens from i on, m of them, are kept side by side -/
def sbs (O : Nat → Int) (i m : Nat) : Prop := ∀ k, k < m → O (i + k) ≠ -1 ∧ O (i + k) = O i + (k : Int)
theorem rnK_iff {O : Nat → Int} {n : Nat} (hO : ∀ i, i < n → -1 ≤ O i) : ∀ (k m : Nat), k ≤ n → 1 ≤ m → m ≤ k → ((m : Int) ≤ rnK O n k ↔ sbs O (n - k) m)
  | 0, m, _, h1, h2 => absurd h1 (by omega)
  | k + 1, m, hk, h1, h2 => by
    have ih := rnK_iff hO k (m - 1) (by omega)
    have en : n - (k + 1) + 1 = n - k := by omega
    have hr := rnK_nn O n k
    have hx := hO (n - (k + 1)) (by omega)
    unfold rnK
    by_cases c1 : O (n - (k + 1)) = -1
    · rw [if_pos c1]
      exact ⟨fun z => by omega, fun z => absurd c1 (z 0 (by omega)).1⟩
    · rw [if_neg c1]
      by_cases c2 : 0 < k ∧ O (n - k) = O (n - (k + 1)) + 1
      · rw [if_pos c2]
        by_cases e : m = 1
        · subst e
          refine ⟨fun _ j hj => ?_, fun _ => by omega⟩
          rw [show j = 0 by omega]
          exact ⟨c1, by simp⟩
        · have ih := ih (by omega) (by omega)
          constructor
          · intro z
            have s := ih.mp (by omega)
            intro j hj
            cases j with
            | zero => exact ⟨c1, by simp⟩
            | succ j =>
              have := s j (by omega)
              rw [show n - (k + 1) + (j + 1) = n - k + j by omega]
              exact ⟨this.1, by rw [this.2, c2.2]; omega⟩
          · intro s
            have : ((m - 1 : Nat) : Int) ≤ rnK O n k := ih.mpr (fun j hj => by
              have := s (j + 1) (by omega)
              rw [show n - (k + 1) + (j + 1) = n - k + j by omega] at this
              exact ⟨this.1, by rw [this.2, c2.2]; omega⟩)
            omega
      · rw [if_neg c2]
        constructor
        · intro z
          intro j hj
          rw [show j = 0 by omega]
          exact ⟨c1, by simp⟩
        · intro s
          by_cases e : m = 1
          · omega
          · have := s 1 (by omega)
            rw [en] at this
            exact absurd ⟨by omega, by simpa using this.2⟩ c2
/-- whether a node is kept -/
def kpP (O : Nat → Int) (N0 N1 : List zQ) (i : Nat) : Prop := 0 < i ∧ 0 < (N1.getD i n0).2.2.2.2.2.2.1 ∧ sbs O (N1.getD i n0).2.2.2.2.2.1.toNat (N1.getD i n0).2.2.2.2.2.2.1.toNat ∧ ∃ o, o < N0.length ∧ (N0.getD o n0).1 = (N1.getD i n0).1 ∧ (N0.getD o n0).2.2.2.2.2.2.1 = (N1.getD i n0).2.2.2.2.2.2.1 ∧ (N0.getD o n0).2.2.2.2.2.1 = O (N1.getD i n0).2.2.2.2.2.1.toNat
noncomputable def kpB (O : Nat → Int) (N0 N1 : List zQ) (i : Nat) : Bool := @decide (kpP O N0 N1 i) (Classical.propDecidable _)
theorem kpB_iff {O : Nat → Int} {N0 N1 : List zQ} {i : Nat} : kpB O N0 N1 i = true ↔ kpP O N0 N1 i := by unfold kpB; exact @decide_eq_true_iff _ (Classical.propDecidable _)
theorem kpB_no {O : Nat → Int} {N0 N1 : List zQ} {i : Nat} (h : ¬ kpP O N0 N1 i) : kpB O N0 N1 i = false := by
  cases e : kpB O N0 N1 i with
  | false => rfl
  | true => exact absurd (kpB_iff.mp e) h
/-- the kept tokens' rows -/
def KO (O : Nat → Int) (n : Nat) (M : zM) : Prop := ∀ i : Nat, i < n → M 71 (i : Int) = O i
section KP3
variable {L d : Nat} {M : zM} {Q : Option zV → zM → Prop} {T0 T1 : List zT} {N0 N1 : List zQ} {O : Nat → Int}
theorem S_originOf {i : Int} (hR : RT T1 M) (hO : KO O T1.length M) (k : Q (some (0, if 0 ≤ i ∧ i < (T1.length : Int) then O i.toNat else -1)) M) : v_call L (d + 1) 31 [(2, 62), (0, i)] M Q := by
  have hl := hR.2.1
  by_cases c : 0 ≤ i ∧ i < (T1.length : Int)
  · rw [if_pos c] at k
    have := hO i.toNat (by omega)
    rw [show ((i.toNat : Nat) : Int) = i by omega] at this
    refine v_in ?_
    refine v_load rfl rfl ⟨rfl, Nat.le_of_ble_eq_true rfl⟩ ?_
    refine v_getp rfl rfl rfl ?_
    refine v_load rfl rfl ⟨rfl, Nat.le_of_ble_eq_true rfl⟩ ?_
    refine v_callr rfl ⟨Nat.le_of_ble_eq_true rfl, Nat.le_of_ble_eq_true rfl, rfl, Nat.le_of_ble_eq_true rfl, rfl⟩ ?_
    refine S_tkHas hR ?_
    rw [if_pos c]
    refine v_ifeq rfl (fun h => absurd h (by decide)) (fun _ => ?_)
    refine v_load rfl rfl ⟨rfl, Nat.le_of_ble_eq_true rfl⟩ ?_
    refine v_load rfl rfl ⟨rfl, Nat.le_of_ble_eq_true rfl⟩ ?_
    refine v_getp rfl rfl rfl ?_
    refine v_len rfl ⟨Nat.le_of_ble_eq_true rfl, Nat.le_of_ble_eq_true rfl⟩ rfl ?_
    refine v_ige rfl (fun h => absurd h (by show ¬ (300 : Int) ≤ i; omega)) (fun _ => ?_)
    refine v_load rfl rfl ⟨rfl, Nat.le_of_ble_eq_true rfl⟩ ?_
    refine v_getp rfl rfl rfl ?_
    refine v_load rfl rfl ⟨rfl, Nat.le_of_ble_eq_true rfl⟩ ?_
    refine v_ald9 rfl rfl ⟨by omega, by show _ < (300 : Int); omega⟩ ?_
    rw [this]
    refine v_goto rfl ?_
    refine v_ret rfl rfl ?_
    exact k
  · rw [if_neg c] at k
    refine v_in ?_
    refine v_load rfl rfl ⟨rfl, Nat.le_of_ble_eq_true rfl⟩ ?_
    refine v_getp rfl rfl rfl ?_
    refine v_load rfl rfl ⟨rfl, Nat.le_of_ble_eq_true rfl⟩ ?_
    refine v_callr rfl ⟨Nat.le_of_ble_eq_true rfl, Nat.le_of_ble_eq_true rfl, rfl, Nat.le_of_ble_eq_true rfl, rfl⟩ ?_
    refine S_tkHas hR ?_
    rw [if_neg c]
    refine v_ifeq rfl (fun _ => ?_) (fun h => absurd h (by decide))
    refine v_push rfl ?_
    refine v_ret rfl rfl ?_
    exact k
/-- the loop of findRuns -/
theorem S_runs_loop (M0 : zM) (hR : RT T1 M0) (hO : KO O T1.length M0) (hOr : ∀ i, i < T1.length → -1 ≤ O i ∧ O i ≤ 300) (k : ∀ M', (∀ i : Nat, i < T1.length → M' 72 (i : Int) = rnK O T1.length (T1.length - i)) → (∀ b j, b ≠ 72 → M' b j = M0 b j) → Q none M') : ∀ (n j : Nat) (nx : Int) (w : zV) (Mc : zM), j + n = T1.length → (j < T1.length → nx = O (T1.length - n)) → (n = 0 → nx = -1) → (∀ i : Nat, j ≤ i → i < T1.length → Mc 72 (i : Int) = rnK O T1.length (T1.length - i)) → (∀ b i, b ≠ 72 → Mc b i = M0 b i) → v_wp L (d + 2) 34 22 [(2, 62), (0, rnK O T1.length n), (0, nx), (0, (j : Int) - 1), w] [] Mc Q := by
  intro n j
  have hl := hR.2.1
  revert n
  induction j with
  | zero =>
    intro n nx w Mc hjn h1 h2 hz ho
    refine v_load rfl rfl ⟨rfl, Nat.le_of_ble_eq_true rfl⟩ ?_
    refine v_iflt rfl (fun _ => ?_) (fun h => absurd h (by show ¬ (0 : Int) ≤ 0 - 1; decide))
    refine v_ret rfl rfl ?_
    exact k Mc (fun i hi => hz i (Nat.zero_le _) hi) ho
  | succ j ih =>
    intro n nx w Mc hjn h1 h2 hz ho
    have hRc : RT T1 Mc := RT_oR (lo := 72) (hi := 72) hR (fun b i hb => ho b i (by omega)) (by decide)
    have hOc : KO O T1.length Mc := fun i hi => by rw [ho 71 _ (by decide)]; exact hO i hi
    have hoj := hOr j (by omega)
    have ej : T1.length - (n + 1) = j := by omega
    have hrn := rnK_nn O T1.length n
    have fin : ∀ (v : Int) (w : zV), v = rnK O T1.length (n + 1) → v_wp L (d + 2) 34 60 [(2, 62), (0, v), (0, nx), (0, ((j + 1 : Nat) : Int) - 1), (0, O j)] [] Mc Q := by
      intro v w hv
      subst hv
      refine v_load rfl rfl ⟨rfl, Nat.le_of_ble_eq_true rfl⟩ ?_
      refine v_getp rfl rfl rfl ?_
      refine v_load rfl rfl ⟨rfl, Nat.le_of_ble_eq_true rfl⟩ ?_
      refine v_load rfl rfl ⟨rfl, Nat.le_of_ble_eq_true rfl⟩ ?_
      refine v_ast9 rfl rfl (by decide) ⟨by omega, by show _ < (300 : Int); omega⟩ ?_
      refine v_load rfl rfl ⟨rfl, Nat.le_of_ble_eq_true rfl⟩ ?_
      refine v_store rfl ⟨rfl, Nat.le_of_ble_eq_true rfl, Nat.le_of_ble_eq_true rfl, rfl⟩ rfl ?_
      refine v_iinc rfl rfl rfl (by omega) rfl ?_
      refine v_goto rfl ?_
      rw [show ((j + 1 : Nat) : Int) - 1 + -1 = (j : Int) - 1 by omega]
      refine ih (n + 1) (O j) _ _ (by omega) (fun _ => by rw [ej]) (fun z => by omega) (fun i i1 i2 => ?_) (fun b i hb => by rw [u_n1 hb]; exact ho b i hb)
      by_cases e : i = j
      · subst e
        rw [show ((i + 1 : Nat) : Int) - 1 = (i : Int) by omega, u_eq, show T1.length - i = n + 1 by omega]
      · rw [u_n2 (by omega)]
        exact hz i (by omega) i2
    have er : rnK O T1.length (n + 1) = if O j = -1 then 0 else if 0 < n ∧ O (T1.length - n) = O j + 1 then rnK O T1.length n + 1 else 1 := by
      show (if O (T1.length - (n + 1)) = -1 then 0 else if 0 < n ∧ O (T1.length - n) = O (T1.length - (n + 1)) + 1 then rnK O T1.length n + 1 else 1) = _
      rw [ej]
    have hnx : 0 < n → nx = O (T1.length - n) := fun z => by
      by_cases y : j + 1 < T1.length
      · exact h1 y
      · omega
    have eo : (if 0 ≤ ((j + 1 : Nat) : Int) - 1 ∧ ((j + 1 : Nat) : Int) - 1 < (T1.length : Int) then O (((j + 1 : Nat) : Int) - 1).toNat else -1) = O j := by
      rw [if_pos ⟨by omega, by omega⟩, show (((j + 1 : Nat) : Int) - 1).toNat = j by omega]
    refine v_load rfl rfl ⟨rfl, Nat.le_of_ble_eq_true rfl⟩ ?_
    refine v_iflt rfl (fun h => absurd h (by omega)) (fun _ => ?_)
    refine v_load rfl rfl ⟨rfl, Nat.le_of_ble_eq_true rfl⟩ ?_
    refine v_load rfl rfl ⟨rfl, Nat.le_of_ble_eq_true rfl⟩ ?_
    refine v_callr rfl ⟨Nat.le_of_ble_eq_true rfl, Nat.le_of_ble_eq_true rfl, rfl, Nat.le_of_ble_eq_true rfl, rfl⟩ ?_
    refine S_originOf hRc hOc ?_
    rw [eo]
    refine v_store rfl ⟨rfl, Nat.le_of_ble_eq_true rfl, Nat.le_of_ble_eq_true rfl, rfl⟩ rfl ?_
    refine v_load rfl rfl ⟨rfl, Nat.le_of_ble_eq_true rfl⟩ ?_
    refine v_push rfl ?_
    refine v_ine rfl (fun c1 => ?_) (fun c1 => ?_)
    · refine v_load rfl rfl ⟨rfl, Nat.le_of_ble_eq_true rfl⟩ ?_
      refine v_load rfl rfl ⟨rfl, Nat.le_of_ble_eq_true rfl⟩ ?_
      refine v_push rfl ?_
      refine v_add rfl (by omega) ?_
      refine v_ine rfl (fun c2 => ?_) (fun c2 => ?_)
      · refine v_push rfl ?_
        refine v_store rfl ⟨rfl, Nat.le_of_ble_eq_true rfl, Nat.le_of_ble_eq_true rfl, rfl⟩ rfl ?_
        exact fin _ (9, 0) (by rw [er]; by_cases n0 : 0 < n; (have := hnx n0; simp only [n0, true_and]; repeat' split) <;> omega; (have := h2 (by omega); simp only [n0, false_and, if_false]; repeat' split) <;> omega)
      · refine v_load rfl rfl ⟨rfl, Nat.le_of_ble_eq_true rfl⟩ ?_
        refine v_push rfl ?_
        refine v_add rfl (by omega) ?_
        refine v_goto rfl ?_
        refine v_store rfl ⟨rfl, Nat.le_of_ble_eq_true rfl, Nat.le_of_ble_eq_true rfl, rfl⟩ rfl ?_
        exact fin _ (9, 0) (by rw [er]; by_cases n0 : 0 < n; (have := hnx n0; simp only [n0, true_and]; repeat' split) <;> omega; (have := h2 (by omega); simp only [n0, false_and, if_false]; repeat' split) <;> omega)
    · refine v_push rfl ?_
      refine v_store rfl ⟨rfl, Nat.le_of_ble_eq_true rfl, Nat.le_of_ble_eq_true rfl, rfl⟩ rfl ?_
      refine v_goto rfl ?_
      exact fin _ (9, 0) (by rw [er]; by_cases n0 : 0 < n; (have := hnx n0; simp only [n0, true_and]; repeat' split) <;> omega; (have := h2 (by omega); simp only [n0, false_and, if_false]; repeat' split) <;> omega)
theorem S_findRuns (hR : RT T1 M) (hO : KO O T1.length M) (hOr : ∀ i, i < T1.length → -1 ≤ O i ∧ O i ≤ 300) (k : ∀ M', (∀ i : Nat, i < T1.length → M' 72 (i : Int) = rnK O T1.length (T1.length - i)) → (∀ b j, b ≠ 72 → M' b j = M b j) → Q none M') : v_call L (d + 2) 34 [(2, 62)] M Q := by
  have hl := hR.2.1
  refine v_in ?_
  refine v_push rfl ?_
  refine v_store rfl ⟨rfl, Nat.le_of_ble_eq_true rfl, Nat.le_of_ble_eq_true rfl, rfl⟩ rfl ?_
  refine v_push rfl ?_
  refine v_store rfl ⟨rfl, Nat.le_of_ble_eq_true rfl, Nat.le_of_ble_eq_true rfl, rfl⟩ rfl ?_
  refine v_load rfl rfl ⟨rfl, Nat.le_of_ble_eq_true rfl⟩ ?_
  refine v_getp rfl rfl rfl ?_
  refine v_callr rfl ⟨Nat.le_of_ble_eq_true rfl, Nat.le_of_ble_eq_true rfl, rfl, Nat.le_of_ble_eq_true rfl, rfl⟩ ?_
  refine S_tkSize hR ?_
  refine v_load rfl rfl ⟨rfl, Nat.le_of_ble_eq_true rfl⟩ ?_
  refine v_getp rfl rfl rfl ?_
  refine v_len rfl ⟨Nat.le_of_ble_eq_true rfl, Nat.le_of_ble_eq_true rfl⟩ rfl ?_
  refine v_min rfl (by decide) ?_
  rw [if_neg (show ¬ (((z_sC L 72).2 : Nat) : Int) < (T1.length : Int) by show ¬ (300 : Int) < _; omega)]
  refine v_push rfl ?_
  refine v_sub rfl (by omega) ?_
  refine v_store rfl ⟨rfl, Nat.le_of_ble_eq_true rfl, Nat.le_of_ble_eq_true rfl, rfl⟩ rfl ?_
  exact S_runs_loop M hR hO hOr k 0 T1.length (-1) _ M (by omega) (fun z => absurd z (by omega)) (fun _ => rfl) (fun i i1 i2 => absurd i2 (by omega)) (fun _ _ _ => rfl)
/-- old nodes with a number of tokens ahead of them -/
theorem S_was_loop {i : Nat} {or_ fr tn : Int} (hOl : M 62 11 = (N0.length : Int)) (hOn : OCN N0 N0.length M) (hl0 : N0.length ≤ 1216) (hRN : RN N1 M) (hi : i < N1.length) (hmono : ∀ x y : Nat, x ≤ y → y < N0.length → (N0.getD x n0).2.2.2.2.2.1 ≤ (N0.getD y n0).2.2.2.2.2.1) {f0 : Nat} (hf0 : f0 < N0.length) (hff : (N0.getD f0 n0).2.2.2.2.2.1 = or_) (hfb : ∀ x : Nat, x < f0 → (N0.getD x n0).2.2.2.2.2.1 ≠ or_)
    (k1 : (∃ o, o < N0.length ∧ (N0.getD o n0).1 = (N1.getD i n0).1 ∧ (N0.getD o n0).2.2.2.2.2.2.1 = tn ∧ (N0.getD o n0).2.2.2.2.2.1 = or_) → Q (some (0, 1)) M) (k2 : (¬ ∃ o, o < N0.length ∧ (N0.getD o n0).1 = (N1.getD i n0).1 ∧ (N0.getD o n0).2.2.2.2.2.2.1 = tn ∧ (N0.getD o n0).2.2.2.2.2.1 = or_) → Q (some (0, 0)) M) : ∀ (n j : Nat) (w : Int), n = N0.length - j → f0 ≤ j → j ≤ N0.length → (∀ x : Nat, f0 ≤ x → x < j → ¬ ((N0.getD x n0).1 = (N1.getD i n0).1 ∧ (N0.getD x n0).2.2.2.2.2.2.1 = tn)) → v_wp L (d + 2) 35 97 [(2, 62), (0, (i : Int)), (0, fr), (0, tn), (0, or_), (0, w), (0, (j : Int))] [] M Q := by
  intro n
  have end_ : ∀ (j : Nat) (w : Int), f0 ≤ j → j ≤ N0.length → (∀ x : Nat, f0 ≤ x → x < j → ¬ ((N0.getD x n0).1 = (N1.getD i n0).1 ∧ (N0.getD x n0).2.2.2.2.2.2.1 = tn)) → (j < N0.length → (N0.getD j n0).2.2.2.2.2.1 ≠ or_) → v_wp L (d + 2) 35 163 [(2, 62), (0, (i : Int)), (0, fr), (0, tn), (0, or_), (0, w), (0, (j : Int))] [] M Q := by
    intro j w h1 h2 h3 h4
    refine v_push rfl (v_ret rfl rfl (k2 ?_))
    intro ⟨o, o1, o2, o3, o4⟩
    by_cases c : o < f0
    · exact hfb o c o4
    · by_cases c2 : o < j
      · exact h3 o (by omega) c2 ⟨o2, o3⟩
      · have m1 := hmono f0 j h1 (by omega)
        have m2 := hmono j o (by omega) o1
        have := h4 (by omega)
        omega
  induction n with
  | zero =>
    intro j w hn h1 h2 h3
    have ej : j = N0.length := by omega
    refine v_load rfl rfl ⟨rfl, Nat.le_of_ble_eq_true rfl⟩ ?_
    refine v_load rfl rfl ⟨rfl, Nat.le_of_ble_eq_true rfl⟩ ?_
    refine v_getx rfl rfl (hOl) ?_
    refine v_ige rfl (fun _ => ?_) (fun h => absurd h (by omega))
    exact end_ j w h1 h2 h3 (fun z => absurd z (by omega))
  | succ n ih =>
    intro j w hn h1 h2 h3
    have hj : j < N0.length := by omega
    obtain ⟨g1, g2, g3⟩ := hOn.1 j hj
    have ens : nd N1 (i : Int) = N1.getD i n0 := nd_nat hi
    have nx : ¬ ((N0.getD j n0).1 = (N1.getD i n0).1 ∧ (N0.getD j n0).2.2.2.2.2.2.1 = tn) → v_wp L (d + 2) 35 157 [(2, 62), (0, (i : Int)), (0, fr), (0, tn), (0, or_), (0, w), (0, (j : Int))] [] M Q := by
      intro hc
      refine v_iinc rfl rfl rfl (by omega) rfl ?_
      refine v_goto rfl ?_
      refine ih (j + 1) w (by omega) (by omega) (by omega) (fun x x1 x2 => ?_)
      by_cases e : x = j
      · subst e; exact hc
      · exact h3 x x1 (by omega)
    refine v_load rfl rfl ⟨rfl, Nat.le_of_ble_eq_true rfl⟩ ?_
    refine v_load rfl rfl ⟨rfl, Nat.le_of_ble_eq_true rfl⟩ ?_
    refine v_getx rfl rfl (hOl) ?_
    refine v_ige rfl (fun h => absurd h (by omega)) (fun _ => ?_)
    refine v_load rfl rfl ⟨rfl, Nat.le_of_ble_eq_true rfl⟩ ?_
    refine v_push rfl ?_
    refine v_ige rfl (fun h => absurd h (by omega)) (fun _ => ?_)
    refine v_load rfl rfl ⟨rfl, Nat.le_of_ble_eq_true rfl⟩ ?_
    refine v_getp rfl rfl rfl ?_
    refine v_load rfl rfl ⟨rfl, Nat.le_of_ble_eq_true rfl⟩ ?_
    refine v_ald9 rfl rfl ⟨by omega, by show _ < (1216 : Int); omega⟩ ?_
    rw [g2]
    refine v_load rfl rfl ⟨rfl, Nat.le_of_ble_eq_true rfl⟩ ?_
    refine v_ine rfl (fun c1 => ?_) (fun c1 => ?_)
    · exact end_ j w h1 h2 h3 (fun _ => c1)
    · refine v_load rfl rfl ⟨rfl, Nat.le_of_ble_eq_true rfl⟩ ?_
      refine v_getp rfl rfl rfl ?_
      refine v_load rfl rfl ⟨rfl, Nat.le_of_ble_eq_true rfl⟩ ?_
      refine v_ald9 rfl rfl ⟨by omega, by show _ < (1216 : Int); omega⟩ ?_
      rw [g1]
      refine v_load rfl rfl ⟨rfl, Nat.le_of_ble_eq_true rfl⟩ ?_
      refine v_getp rfl rfl rfl ?_
      refine v_load rfl rfl ⟨rfl, Nat.le_of_ble_eq_true rfl⟩ ?_
      refine v_callr rfl ⟨Nat.le_of_ble_eq_true rfl, Nat.le_of_ble_eq_true rfl, rfl, Nat.le_of_ble_eq_true rfl, rfl⟩ ?_
      refine S_ndSort hRN ?_
      rw [ens]
      refine v_ine rfl (fun c2 => ?_) (fun c2 => ?_)
      · exact nx (fun z => c2 z.1)
      · refine v_load rfl rfl ⟨rfl, Nat.le_of_ble_eq_true rfl⟩ ?_
        refine v_getp rfl rfl rfl ?_
        refine v_load rfl rfl ⟨rfl, Nat.le_of_ble_eq_true rfl⟩ ?_
        refine v_ald9 rfl rfl ⟨by omega, by show _ < (1216 : Int); omega⟩ ?_
        rw [g3]
        refine v_load rfl rfl ⟨rfl, Nat.le_of_ble_eq_true rfl⟩ ?_
        refine v_ine rfl (fun c3 => ?_) (fun c3 => ?_)
        · exact nx (fun z => c3 z.2)
        · refine v_push rfl ?_
          refine v_ret rfl rfl ?_
          exact k1 ⟨j, hj, c2, c3, c1⟩
theorem S_wasThere {i : Nat} (hOC : OC T0 N0 M) (hl0 : N0.length ≤ 1216) (hR : RT T1 M) (hRN : RN N1 M) (hi : i < N1.length) (hO : KO O T1.length M) (hOr : ∀ i, i < T1.length → -1 ≤ O i ∧ O i ≤ 300) (hrun : ∀ i : Nat, i < T1.length → M 72 (i : Int) = rnK O T1.length (T1.length - i)) (hnd : 0 ≤ (N1.getD i n0).2.2.2.2.2.1 ∧ 0 ≤ (N1.getD i n0).2.2.2.2.2.2.1 ∧ (N1.getD i n0).2.2.2.2.2.1 + (N1.getD i n0).2.2.2.2.2.2.1 ≤ (T1.length : Int)) (hmono : ∀ x y : Nat, x ≤ y → y < N0.length → (N0.getD x n0).2.2.2.2.2.1 ≤ (N0.getD y n0).2.2.2.2.2.1) (k : Q (some (0, b2i (kpB O N0 N1 i))) M) : v_call L (d + 2) 35 [(2, 62), (0, (i : Int))] M Q := by
  obtain ⟨-, -, h11, hOn⟩ := hOC
  have hl1 := hR.2.1
  have ens : nd N1 (i : Int) = N1.getD i n0 := nd_nat hi
  generalize hfr : (N1.getD i n0).2.2.2.2.2.1 = fr at *
  generalize htn : (N1.getD i n0).2.2.2.2.2.2.1 = tn at *
  have no : ¬ kpP O N0 N1 i → ∀ w4 w5 w6 : zV, v_wp L (d + 2) 35 49 [(2, 62), (0, (i : Int)), (0, fr), (0, tn), w4, w5, w6] [] M Q := by
    intro h w4 w5 w6
    rw [kpB_no h] at k
    exact v_push rfl (v_ret rfl rfl k)
  refine v_in ?_
  refine v_load rfl rfl ⟨rfl, Nat.le_of_ble_eq_true rfl⟩ ?_
  refine v_getp rfl rfl rfl ?_
  refine v_load rfl rfl ⟨rfl, Nat.le_of_ble_eq_true rfl⟩ ?_
  refine v_callr rfl ⟨Nat.le_of_ble_eq_true rfl, Nat.le_of_ble_eq_true rfl, rfl, Nat.le_of_ble_eq_true rfl, rfl⟩ ?_
  refine S_ndFrom hRN ?_
  rw [ens, hfr]
  refine v_store rfl ⟨rfl, Nat.le_of_ble_eq_true rfl, Nat.le_of_ble_eq_true rfl, rfl⟩ rfl ?_
  refine v_load rfl rfl ⟨rfl, Nat.le_of_ble_eq_true rfl⟩ ?_
  refine v_getp rfl rfl rfl ?_
  refine v_load rfl rfl ⟨rfl, Nat.le_of_ble_eq_true rfl⟩ ?_
  refine v_callr rfl ⟨Nat.le_of_ble_eq_true rfl, Nat.le_of_ble_eq_true rfl, rfl, Nat.le_of_ble_eq_true rfl, rfl⟩ ?_
  refine S_ndTaken hRN ?_
  rw [ens, htn]
  refine v_store rfl ⟨rfl, Nat.le_of_ble_eq_true rfl, Nat.le_of_ble_eq_true rfl, rfl⟩ rfl ?_
  by_cases c1 : i = 0
  · refine v_load rfl rfl ⟨rfl, Nat.le_of_ble_eq_true rfl⟩ ?_
    refine v_ifeq rfl (fun _ => ?_) (fun h => absurd h (by omega))
    exact no (fun z => by have := z.1; omega) _ _ _
  by_cases c2 : tn = 0
  · refine v_load rfl rfl ⟨rfl, Nat.le_of_ble_eq_true rfl⟩ ?_
    refine v_ifeq rfl (fun h => absurd h (by omega)) (fun _ => ?_)
    refine v_load rfl rfl ⟨rfl, Nat.le_of_ble_eq_true rfl⟩ ?_
    refine v_ifeq rfl (fun _ => ?_) (fun h => absurd h (by omega))
    exact no (fun z => by have := z.2.1; omega) _ _ _
  have c3 : fr < (T1.length : Int) := by omega
  have hrf := hrun fr.toNat (by omega)
  rw [show ((fr.toNat : Nat) : Int) = fr by omega] at hrf
  have hiff := rnK_iff (O := O) (n := T1.length) (fun i hi => (hOr i hi).1) (T1.length - fr.toNat) tn.toNat (by omega) (by omega) (by omega)
  rw [show T1.length - (T1.length - fr.toNat) = fr.toNat by omega, show ((tn.toNat : Nat) : Int) = tn by omega] at hiff
  by_cases c4 : tn ≤ rnK O T1.length (T1.length - fr.toNat)
  · have hs := hiff.mp c4
    have ho0 := (hs 0 (by omega)).1
    rw [Nat.add_zero] at ho0
    have hor := hOr fr.toNat (by omega)
    have e70 := hOn.2 (O fr.toNat) (by omega) (by omega)
    rcases firstI_ok (frmN N0 (O fr.toNat)) N0.length with ⟨e, hno⟩ | ⟨f0, hf0, e, ht, hb⟩
    · have hnk : ¬ kpP O N0 N1 i := fun z => by
        obtain ⟨-, -, -, o, o1, -, -, o4⟩ := z
        have := hno o o1
        unfold frmN at this
        rw [hfr] at o4
        rw [decide_eq_true o4] at this
        cases this
      rw [kpB_no hnk] at k
      refine v_load rfl rfl ⟨rfl, Nat.le_of_ble_eq_true rfl⟩ ?_
      refine v_ifeq rfl (fun h => absurd h (by omega)) (fun _ => ?_)
      refine v_load rfl rfl ⟨rfl, Nat.le_of_ble_eq_true rfl⟩ ?_
      refine v_ifeq rfl (fun h => absurd h (by omega)) (fun _ => ?_)
      refine v_load rfl rfl ⟨rfl, Nat.le_of_ble_eq_true rfl⟩ ?_
      refine v_iflt rfl (fun h => absurd h (by omega)) (fun _ => ?_)
      refine v_load rfl rfl ⟨rfl, Nat.le_of_ble_eq_true rfl⟩ ?_
      refine v_load rfl rfl ⟨rfl, Nat.le_of_ble_eq_true rfl⟩ ?_
      refine v_getp rfl rfl rfl ?_
      refine v_len rfl ⟨Nat.le_of_ble_eq_true rfl, Nat.le_of_ble_eq_true rfl⟩ rfl ?_
      refine v_ige rfl (fun h => absurd h (by show ¬ (300 : Int) ≤ fr; omega)) (fun _ => ?_)
      refine v_load rfl rfl ⟨rfl, Nat.le_of_ble_eq_true rfl⟩ ?_
      refine v_getp rfl rfl rfl ?_
      refine v_load rfl rfl ⟨rfl, Nat.le_of_ble_eq_true rfl⟩ ?_
      refine v_ald9 rfl rfl ⟨by omega, by show _ < (300 : Int); omega⟩ ?_
      rw [hrf]
      refine v_load rfl rfl ⟨rfl, Nat.le_of_ble_eq_true rfl⟩ ?_
      refine v_ige rfl (fun _ => ?_) (fun h => absurd h (by omega))
      refine v_load rfl rfl ⟨rfl, Nat.le_of_ble_eq_true rfl⟩ ?_
      refine v_load rfl rfl ⟨rfl, Nat.le_of_ble_eq_true rfl⟩ ?_
      refine v_callr rfl ⟨Nat.le_of_ble_eq_true rfl, Nat.le_of_ble_eq_true rfl, rfl, Nat.le_of_ble_eq_true rfl, rfl⟩ ?_
      refine S_originOf hR hO ?_
      rw [if_pos ⟨hnd.1, c3⟩]
      refine v_store rfl ⟨rfl, Nat.le_of_ble_eq_true rfl, Nat.le_of_ble_eq_true rfl, rfl⟩ rfl ?_
      refine v_load rfl rfl ⟨rfl, Nat.le_of_ble_eq_true rfl⟩ ?_
      refine v_iflt rfl (fun h => absurd h (by omega)) (fun _ => ?_)
      refine v_load rfl rfl ⟨rfl, Nat.le_of_ble_eq_true rfl⟩ ?_
      refine v_load rfl rfl ⟨rfl, Nat.le_of_ble_eq_true rfl⟩ ?_
      refine v_getp rfl rfl rfl ?_
      refine v_len rfl ⟨Nat.le_of_ble_eq_true rfl, Nat.le_of_ble_eq_true rfl⟩ rfl ?_
      refine v_ige rfl (fun h => absurd h (by show ¬ (301 : Int) ≤ _; omega)) (fun _ => ?_)
      refine v_load rfl rfl ⟨rfl, Nat.le_of_ble_eq_true rfl⟩ ?_
      refine v_getp rfl rfl rfl ?_
      refine v_load rfl rfl ⟨rfl, Nat.le_of_ble_eq_true rfl⟩ ?_
      refine v_ald9 rfl rfl ⟨by omega, by show _ < (301 : Int); omega⟩ ?_
      rw [e70, e]
      refine v_goto rfl ?_
      refine v_store rfl ⟨rfl, Nat.le_of_ble_eq_true rfl, Nat.le_of_ble_eq_true rfl, rfl⟩ rfl ?_
      refine v_load rfl rfl ⟨rfl, Nat.le_of_ble_eq_true rfl⟩ ?_
      refine v_ifge rfl (fun h => absurd h (by omega)) (fun _ => ?_)
      refine v_push rfl ?_
      refine v_ret rfl rfl ?_
      exact k
    · have hff : (N0.getD f0 n0).2.2.2.2.2.1 = O fr.toNat := by unfold frmN at ht; simpa using ht
      refine v_load rfl rfl ⟨rfl, Nat.le_of_ble_eq_true rfl⟩ ?_
      refine v_ifeq rfl (fun h => absurd h (by omega)) (fun _ => ?_)
      refine v_load rfl rfl ⟨rfl, Nat.le_of_ble_eq_true rfl⟩ ?_
      refine v_ifeq rfl (fun h => absurd h (by omega)) (fun _ => ?_)
      refine v_load rfl rfl ⟨rfl, Nat.le_of_ble_eq_true rfl⟩ ?_
      refine v_iflt rfl (fun h => absurd h (by omega)) (fun _ => ?_)
      refine v_load rfl rfl ⟨rfl, Nat.le_of_ble_eq_true rfl⟩ ?_
      refine v_load rfl rfl ⟨rfl, Nat.le_of_ble_eq_true rfl⟩ ?_
      refine v_getp rfl rfl rfl ?_
      refine v_len rfl ⟨Nat.le_of_ble_eq_true rfl, Nat.le_of_ble_eq_true rfl⟩ rfl ?_
      refine v_ige rfl (fun h => absurd h (by show ¬ (300 : Int) ≤ fr; omega)) (fun _ => ?_)
      refine v_load rfl rfl ⟨rfl, Nat.le_of_ble_eq_true rfl⟩ ?_
      refine v_getp rfl rfl rfl ?_
      refine v_load rfl rfl ⟨rfl, Nat.le_of_ble_eq_true rfl⟩ ?_
      refine v_ald9 rfl rfl ⟨by omega, by show _ < (300 : Int); omega⟩ ?_
      rw [hrf]
      refine v_load rfl rfl ⟨rfl, Nat.le_of_ble_eq_true rfl⟩ ?_
      refine v_ige rfl (fun _ => ?_) (fun h => absurd h (by omega))
      refine v_load rfl rfl ⟨rfl, Nat.le_of_ble_eq_true rfl⟩ ?_
      refine v_load rfl rfl ⟨rfl, Nat.le_of_ble_eq_true rfl⟩ ?_
      refine v_callr rfl ⟨Nat.le_of_ble_eq_true rfl, Nat.le_of_ble_eq_true rfl, rfl, Nat.le_of_ble_eq_true rfl, rfl⟩ ?_
      refine S_originOf hR hO ?_
      rw [if_pos ⟨hnd.1, c3⟩]
      refine v_store rfl ⟨rfl, Nat.le_of_ble_eq_true rfl, Nat.le_of_ble_eq_true rfl, rfl⟩ rfl ?_
      refine v_load rfl rfl ⟨rfl, Nat.le_of_ble_eq_true rfl⟩ ?_
      refine v_iflt rfl (fun h => absurd h (by omega)) (fun _ => ?_)
      refine v_load rfl rfl ⟨rfl, Nat.le_of_ble_eq_true rfl⟩ ?_
      refine v_load rfl rfl ⟨rfl, Nat.le_of_ble_eq_true rfl⟩ ?_
      refine v_getp rfl rfl rfl ?_
      refine v_len rfl ⟨Nat.le_of_ble_eq_true rfl, Nat.le_of_ble_eq_true rfl⟩ rfl ?_
      refine v_ige rfl (fun h => absurd h (by show ¬ (301 : Int) ≤ _; omega)) (fun _ => ?_)
      refine v_load rfl rfl ⟨rfl, Nat.le_of_ble_eq_true rfl⟩ ?_
      refine v_getp rfl rfl rfl ?_
      refine v_load rfl rfl ⟨rfl, Nat.le_of_ble_eq_true rfl⟩ ?_
      refine v_ald9 rfl rfl ⟨by omega, by show _ < (301 : Int); omega⟩ ?_
      rw [e70, e]
      refine v_goto rfl ?_
      refine v_store rfl ⟨rfl, Nat.le_of_ble_eq_true rfl, Nat.le_of_ble_eq_true rfl, rfl⟩ rfl ?_
      refine v_load rfl rfl ⟨rfl, Nat.le_of_ble_eq_true rfl⟩ ?_
      refine v_ifge rfl (fun _ => ?_) (fun h => absurd h (by omega))
      refine v_load rfl rfl ⟨rfl, Nat.le_of_ble_eq_true rfl⟩ ?_
      refine v_store rfl ⟨rfl, Nat.le_of_ble_eq_true rfl, Nat.le_of_ble_eq_true rfl, rfl⟩ rfl ?_
      refine S_was_loop (i := i) h11 hOn hl0 hRN hi hmono hf0 hff (fun x hx => ?_) (fun hex => ?_) (fun hex => ?_) _ f0 _ rfl (Nat.le_refl _) (by omega) (fun x x1 x2 => absurd x2 (by omega))
      · have := hb x hx
        unfold frmN at this
        simpa using this
      · rw [kpB_iff.mpr ⟨by omega, by rw [htn]; omega, by rw [hfr, htn]; exact hs, by rw [hfr, htn]; exact hex⟩] at k
        exact k
      · rw [kpB_no (fun z => hex (by have := z.2.2.2; rw [hfr, htn] at this; exact this))] at k
        exact k
  · refine v_load rfl rfl ⟨rfl, Nat.le_of_ble_eq_true rfl⟩ ?_
    refine v_ifeq rfl (fun h => absurd h (by omega)) (fun _ => ?_)
    refine v_load rfl rfl ⟨rfl, Nat.le_of_ble_eq_true rfl⟩ ?_
    refine v_ifeq rfl (fun h => absurd h (by omega)) (fun _ => ?_)
    refine v_load rfl rfl ⟨rfl, Nat.le_of_ble_eq_true rfl⟩ ?_
    refine v_iflt rfl (fun h => absurd h (by omega)) (fun _ => ?_)
    refine v_load rfl rfl ⟨rfl, Nat.le_of_ble_eq_true rfl⟩ ?_
    refine v_load rfl rfl ⟨rfl, Nat.le_of_ble_eq_true rfl⟩ ?_
    refine v_getp rfl rfl rfl ?_
    refine v_len rfl ⟨Nat.le_of_ble_eq_true rfl, Nat.le_of_ble_eq_true rfl⟩ rfl ?_
    refine v_ige rfl (fun h => absurd h (by show ¬ (300 : Int) ≤ fr; omega)) (fun _ => ?_)
    refine v_load rfl rfl ⟨rfl, Nat.le_of_ble_eq_true rfl⟩ ?_
    refine v_getp rfl rfl rfl ?_
    refine v_load rfl rfl ⟨rfl, Nat.le_of_ble_eq_true rfl⟩ ?_
    refine v_ald9 rfl rfl ⟨by omega, by show _ < (300 : Int); omega⟩ ?_
    rw [hrf]
    refine v_load rfl rfl ⟨rfl, Nat.le_of_ble_eq_true rfl⟩ ?_
    refine v_ige rfl (fun h => absurd h (by omega)) (fun _ => ?_)
    exact no (fun z => by have z3 := z.2.2.1; rw [hfr, htn] at z3; exact c4 (hiff.mpr z3)) _ _ _
end KP3
