/-! THE SCAN of the class -/
def spF (t : List Int) (i : Int) : List Int → Bool
  | [] => true
  | c :: w => decide (tb t i = c) && spF t (i + 1) w
/-- if 1, else 2, while 3, others 0 -/
def key (t : List Int) (a b : Int) : Int := if b - a = 2 ∧ spF t a [105, 102] = true then 1 else if b - a = 4 ∧ spF t a [101, 108, 115, 101] = true then 2 else if b - a = 5 ∧ spF t a [119, 104, 105, 108, 101] = true then 3 else 0
def inQ (c : Int) : Bool := notC 39 c && notC 10 c
/-- what begins at a byte: its token, the byte behind it -/
def tk1 (t : List Int) (i : Int) : Option zT × Int :=
  if tb t i = 32 ∨ tb t i = 10 then (none, i + 1)
  else if tb t i = 35 then (none, skp (notC 10) t i)
  else if isLet (tb t i) = true then (some (0, i, skp isLet t i, skp isLet t i, key t i (skp isLet t i)), skp isLet t i)
  else if isDig (tb t i) = true then (some (1, i, skp isDig t i, skp isDig t i, 0), skp isDig t i)
  else if tb t i = 39 then (if skp inQ t (i + 1) < skp (notC 10) t i then (some (2, i, skp inQ t (i + 1) + 1, skp inQ t (i + 1), 0), skp inQ t (i + 1) + 1) else (some (4, i, i + 1, skp (notC 10) t i, 0), i + 1))
  else if isMk (tb t i) = true then (some (3, i, i + 1, i, tb t i), i + 1)
  else (some (4, i, i + 1, i, 0), i + 1)
def toksF : Nat → List Int → Int → List zT
  | 0, _, _ => []
  | f + 1, t, i => if i < (t.length : Int) then (tk1 t i).1.toList ++ toksF f t (tk1 t i).2 else []
/-- the tokens of a text -/
def toks (t : List Int) : List zT := toksF t.length t 0
theorem skp_gt {p : Int → Bool} {t : List Int} {i : Int} (hi : i < (t.length : Int)) (hp : p (tb t i) = true) : i < skp p t i ∧ skp p t i ≤ (t.length : Int) := by
  rw [skp_in hi hp]
  obtain ⟨a, b, -, -⟩ := skp_ge p t _ (i + 1) rfl
  exact ⟨by omega, b (by omega)⟩
theorem tk1_next {t : List Int} {i : Int} (hi : i < (t.length : Int)) : i < (tk1 t i).2 ∧ (tk1 t i).2 ≤ (t.length : Int) := by
  unfold tk1
  split
  · exact ⟨by show i < i + 1; omega, by show i + 1 ≤ _; omega⟩
  · split
    · rename_i h
      exact skp_gt hi (by simp [notC, h])
    · split
      · rename_i h
        exact skp_gt hi h
      · split
        · rename_i h
          exact skp_gt hi h
        · split
          · split
            · rename_i h
              obtain ⟨a, b, -, -⟩ := skp_ge inQ t _ (i + 1) rfl
              obtain ⟨a2, b2, -, -⟩ := skp_ge (notC 10) t _ i rfl
              have := b2 (by omega)
              exact ⟨by show i < skp inQ t (i + 1) + 1; omega, by show skp inQ t (i + 1) + 1 ≤ _; omega⟩
            · exact ⟨by show i < i + 1; omega, by show i + 1 ≤ _; omega⟩
          · split
            · exact ⟨by show i < i + 1; omega, by show i + 1 ≤ _; omega⟩
            · exact ⟨by show i < i + 1; omega, by show i + 1 ≤ _; omega⟩
/-- more fuel gives no other tokens -/
theorem toksF_eq (t : List Int) : ∀ (f g : Nat) (i : Int), ((t.length : Int) - i).toNat ≤ f → ((t.length : Int) - i).toNat ≤ g → toksF f t i = toksF g t i
  | 0, 0, _, _, _ => rfl
  | 0, g + 1, i, h, _ => by
    unfold toksF
    rw [if_neg (by omega)]
  | f + 1, 0, i, _, h => by
    unfold toksF
    rw [if_neg (by omega)]
  | f + 1, g + 1, i, h1, h2 => by
    unfold toksF
    by_cases hi : i < (t.length : Int)
    · rw [if_pos hi, if_pos hi]
      have := tk1_next hi
      rw [toksF_eq t f g (tk1 t i).2 (by omega) (by omega)]
    · rw [if_neg hi, if_neg hi]
section SC
variable {L d : Nat} {M : zM} {Q : Option zV → zM → Prop} {T : List zT} {t : List Int} {s a : Int}
theorem S_spells_loop {f u w : Int} (hB : z_isB a) (hV : BV M a t s) (hw : -4 ≤ w ∧ w ≤ -2) (hf : 0 ≤ f ∧ f ≤ 300) : ∀ (n : Nat) (i : Int), n = (((z_str w).length : Int) - i).toNat → 0 ≤ i → i ≤ ((z_str w).length : Int) → Q (some (0, b2i (spF t (f + i) ((z_str w).drop i.toNat)))) M → v_wp L (d + 6) 82 15 [(2, a), (0, f), (0, u), (2, w), (0, i)] [] M Q := by
  have hlen : (z_str w).length ≤ 5 := by
    unfold z_str
    split
    · decide
    · split <;> decide
  intro n
  induction n with
  | zero =>
    intro i hn hi hi2 k
    have hd : (z_str w).drop i.toNat = [] := List.drop_eq_nil_of_le (by omega)
    rw [hd] at k
    refine v_load rfl rfl ⟨rfl, Nat.le_of_ble_eq_true rfl⟩ ?_
    refine v_load rfl rfl ⟨rfl, Nat.le_of_ble_eq_true rfl⟩ ?_
    refine v_slen rfl ⟨hw.1, hw.2, Nat.le_of_ble_eq_true rfl⟩ (by omega) ?_
    refine v_ige rfl (fun _ => ?_) (fun h => absurd h (by omega))
    refine v_push rfl ?_
    exact v_ret rfl rfl k
  | succ n ih =>
    intro i hn hi hi2 k
    have hlt : i.toNat < (z_str w).length := by omega
    have hd : (z_str w).drop i.toNat = (z_str w).getD i.toNat 0 :: (z_str w).drop (i + 1).toNat := by
      rw [List.drop_eq_getElem_cons hlt, show (i + 1).toNat = i.toNat + 1 by omega]
      congr 1
      rw [List.getD_eq_getElem?_getD, List.getElem?_eq_getElem hlt]
      rfl
    rw [hd] at k
    refine v_load rfl rfl ⟨rfl, Nat.le_of_ble_eq_true rfl⟩ ?_
    refine v_load rfl rfl ⟨rfl, Nat.le_of_ble_eq_true rfl⟩ ?_
    refine v_slen rfl ⟨hw.1, hw.2, Nat.le_of_ble_eq_true rfl⟩ (by omega) ?_
    refine v_ige rfl (fun h => absurd h (by omega)) (fun _ => ?_)
    refine v_load rfl rfl ⟨rfl, Nat.le_of_ble_eq_true rfl⟩ ?_
    refine v_load rfl rfl ⟨rfl, Nat.le_of_ble_eq_true rfl⟩ ?_
    refine v_load rfl rfl ⟨rfl, Nat.le_of_ble_eq_true rfl⟩ ?_
    refine v_add rfl (by omega) ?_
    refine v_callr rfl ⟨Nat.le_of_ble_eq_true rfl, Nat.le_of_ble_eq_true rfl, z_rB hB, Nat.le_of_ble_eq_true rfl, rfl⟩ ?_
    refine S_atT hB hV ?_
    refine v_load rfl rfl ⟨rfl, Nat.le_of_ble_eq_true rfl⟩ ?_
    refine v_load rfl rfl ⟨rfl, Nat.le_of_ble_eq_true rfl⟩ ?_
    refine v_schr rfl ⟨hw.1, hw.2, hi, by omega, Nat.le_of_ble_eq_true rfl⟩ (by omega) ?_
    refine v_ieq rfl (fun h => ?_) (fun h => ?_)
    · have e : spF t (f + i) ((z_str w).getD i.toNat 0 :: (z_str w).drop (i + 1).toNat) = spF t (f + (i + 1)) ((z_str w).drop (i + 1).toNat) := by
        show (decide (tb t (f + i) = _) && spF t (f + i + 1) _) = _
        rw [decide_eq_true h, Bool.true_and, show f + i + 1 = f + (i + 1) by omega]
      rw [e] at k
      refine v_iinc rfl rfl rfl (by omega) rfl ?_
      refine v_goto rfl ?_
      exact ih (i + 1) (by omega) (by omega) (by omega) k
    · have e : spF t (f + i) ((z_str w).getD i.toNat 0 :: (z_str w).drop (i + 1).toNat) = false := by
        show (decide (tb t (f + i) = _) && spF t (f + i + 1) _) = _
        rw [decide_eq_false h, Bool.false_and]
      rw [e] at k
      refine v_push rfl ?_
      exact v_ret rfl rfl k
theorem S_spells {f u w : Int} (hB : z_isB a) (hV : BV M a t s) (hw : -4 ≤ w ∧ w ≤ -2) (hf : 0 ≤ f ∧ f ≤ 300 ∧ 0 ≤ u ∧ u ≤ 300) (k : Q (some (0, b2i (decide (u - f = ((z_str w).length : Int)) && spF t f (z_str w)))) M) : v_call L (d + 6) 82 [(2, a), (0, f), (0, u), (2, w)] M Q := by
  refine v_in ?_
  refine v_load rfl rfl ⟨rfl, Nat.le_of_ble_eq_true rfl⟩ ?_
  refine v_load rfl rfl ⟨rfl, Nat.le_of_ble_eq_true rfl⟩ ?_
  refine v_sub rfl (by omega) ?_
  refine v_load rfl rfl ⟨rfl, Nat.le_of_ble_eq_true rfl⟩ ?_
  refine v_slen rfl ⟨hw.1, hw.2, Nat.le_of_ble_eq_true rfl⟩ (by omega) ?_
  refine v_ieq rfl (fun h => ?_) (fun h => ?_)
  · rw [decide_eq_true h, Bool.true_and] at k
    refine v_push rfl ?_
    refine v_store rfl ⟨rfl, Nat.le_of_ble_eq_true rfl, Nat.le_of_ble_eq_true rfl, rfl⟩ rfl ?_
    exact S_spells_loop hB hV hw ⟨hf.1, hf.2.1⟩ _ 0 rfl (by omega) (by omega) (by rw [Int.add_zero]; exact k)
  · rw [decide_eq_false h, Bool.false_and] at k
    refine v_push rfl ?_
    exact v_ret rfl rfl k
theorem b2i_0 {b : Bool} : b2i b = 0 ↔ b = false := by cases b <;> simp [b2i]
theorem S_keyword {f u : Int} (hB : z_isB a) (hV : BV M a t s) (hf : 0 ≤ f ∧ f ≤ 300 ∧ 0 ≤ u ∧ u ≤ 300) (k : Q (some (0, key t f u)) M) : v_call L (d + 7) 81 [(2, a), (0, f), (0, u)] M Q := by
  refine v_in ?_
  unfold key at k
  refine v_load rfl rfl ⟨rfl, Nat.le_of_ble_eq_true rfl⟩ ?_
  refine v_load rfl rfl ⟨rfl, Nat.le_of_ble_eq_true rfl⟩ ?_
  refine v_load rfl rfl ⟨rfl, Nat.le_of_ble_eq_true rfl⟩ ?_
  refine v_ldS (r := -2) rfl (by decide) (by decide) ?_
  refine v_callr rfl ⟨Nat.le_of_ble_eq_true rfl, Nat.le_of_ble_eq_true rfl, rfl, Nat.le_of_ble_eq_true rfl, rfl⟩ ?_
  refine S_spells hB hV (by decide) hf ?_
  refine v_ifeq rfl (fun h => ?_) (fun h => ?_)
  · rw [b2i_0] at h
    rw [if_neg (fun z => by
      have : (decide (u - f = ((z_str (-2)).length : Int)) && spF t f (z_str (-2))) = true := by
        rw [Bool.and_eq_true, decide_eq_true_eq]; exact z
      rw [h] at this; cases this)] at k
    refine v_load rfl rfl ⟨rfl, Nat.le_of_ble_eq_true rfl⟩ ?_
    refine v_load rfl rfl ⟨rfl, Nat.le_of_ble_eq_true rfl⟩ ?_
    refine v_load rfl rfl ⟨rfl, Nat.le_of_ble_eq_true rfl⟩ ?_
    refine v_ldS (r := -3) rfl (by decide) (by decide) ?_
    refine v_callr rfl ⟨Nat.le_of_ble_eq_true rfl, Nat.le_of_ble_eq_true rfl, rfl, Nat.le_of_ble_eq_true rfl, rfl⟩ ?_
    refine S_spells hB hV (by decide) hf ?_
    refine v_ifeq rfl (fun h2 => ?_) (fun h2 => ?_)
    · rw [b2i_0] at h2
      rw [if_neg (fun z => by
        have : (decide (u - f = ((z_str (-3)).length : Int)) && spF t f (z_str (-3))) = true := by
          rw [Bool.and_eq_true, decide_eq_true_eq]; exact z
        rw [h2] at this; cases this)] at k
      refine v_load rfl rfl ⟨rfl, Nat.le_of_ble_eq_true rfl⟩ ?_
      refine v_load rfl rfl ⟨rfl, Nat.le_of_ble_eq_true rfl⟩ ?_
      refine v_load rfl rfl ⟨rfl, Nat.le_of_ble_eq_true rfl⟩ ?_
      refine v_ldS (r := -4) rfl (by decide) (by decide) ?_
      refine v_callr rfl ⟨Nat.le_of_ble_eq_true rfl, Nat.le_of_ble_eq_true rfl, rfl, Nat.le_of_ble_eq_true rfl, rfl⟩ ?_
      refine S_spells hB hV (by decide) hf ?_
      refine v_ifeq rfl (fun h3 => ?_) (fun h3 => ?_)
      · rw [b2i_0] at h3
        rw [if_neg (fun z => by
          have : (decide (u - f = ((z_str (-4)).length : Int)) && spF t f (z_str (-4))) = true := by
            rw [Bool.and_eq_true, decide_eq_true_eq]; exact z
          rw [h3] at this; cases this)] at k
        refine v_push rfl ?_
        exact v_ret rfl rfl k
      · rw [b2i_0] at h3
        have h3 : (decide (u - f = ((z_str (-4)).length : Int)) && spF t f (z_str (-4))) = true := by simpa using h3
        rw [Bool.and_eq_true, decide_eq_true_eq] at h3
        have h3 : u - f = 5 ∧ spF t f [119, 104, 105, 108, 101] = true := h3
        rw [if_pos h3] at k
        refine v_push rfl ?_
        refine v_goto rfl ?_
        exact v_ret rfl rfl k
    · rw [b2i_0] at h2
      have h2 : (decide (u - f = ((z_str (-3)).length : Int)) && spF t f (z_str (-3))) = true := by simpa using h2
      rw [Bool.and_eq_true, decide_eq_true_eq] at h2
      have h2 : u - f = 4 ∧ spF t f [101, 108, 115, 101] = true := h2
      rw [if_pos h2] at k
      refine v_push rfl ?_
      exact v_ret rfl rfl k
  · rw [b2i_0] at h
    have h : (decide (u - f = ((z_str (-2)).length : Int)) && spF t f (z_str (-2))) = true := by simpa using h
    rw [Bool.and_eq_true, decide_eq_true_eq] at h
    have h : u - f = 2 ∧ spF t f [105, 102] = true := h
    rw [if_pos h] at k
    refine v_push rfl ?_
    exact v_ret rfl rfl k
theorem z_B2 : z_isB 2 := Or.inl rfl
theorem S_runEnd_loop {fr : Int} {lt : Bool} (hV : BV M 2 t s) : ∀ (n : Nat) (i : Int), n = ((t.length : Int) - i).toNat → 0 ≤ i → i ≤ (t.length : Int) → Q (some (0, skp (if lt then isLet else isDig) t i)) M → v_wp L (d + 1) 76 2 [(2, 36), (0, fr), (0, b2i lt), (0, i)] [] M Q := by
  have v2 := hV.2.1
  intro n
  induction n with
  | zero =>
    intro i hn hi hi2 k
    rw [skp_end (by omega)] at k
    refine v_load rfl rfl ⟨rfl, Nat.le_of_ble_eq_true rfl⟩ ?_
    refine v_load rfl rfl ⟨rfl, Nat.le_of_ble_eq_true rfl⟩ ?_
    refine v_getp rfl rfl rfl ?_
    refine v_callr rfl ⟨Nat.le_of_ble_eq_true rfl, Nat.le_of_ble_eq_true rfl, rfl, Nat.le_of_ble_eq_true rfl, rfl⟩ ?_
    refine S_sizeT z_B2 hV ?_
    refine v_ige rfl (fun _ => ?_) (fun h => absurd h (by omega))
    refine v_load rfl rfl ⟨rfl, Nat.le_of_ble_eq_true rfl⟩ ?_
    exact v_ret rfl rfl k
  | succ n ih =>
    intro i hn hi hi2 k
    refine v_load rfl rfl ⟨rfl, Nat.le_of_ble_eq_true rfl⟩ ?_
    refine v_load rfl rfl ⟨rfl, Nat.le_of_ble_eq_true rfl⟩ ?_
    refine v_getp rfl rfl rfl ?_
    refine v_callr rfl ⟨Nat.le_of_ble_eq_true rfl, Nat.le_of_ble_eq_true rfl, rfl, Nat.le_of_ble_eq_true rfl, rfl⟩ ?_
    refine S_sizeT z_B2 hV ?_
    refine v_ige rfl (fun h => absurd h (by omega)) (fun _ => ?_)
    refine v_load rfl rfl ⟨rfl, Nat.le_of_ble_eq_true rfl⟩ ?_
    cases lt with
    | false =>
      refine v_ifeq rfl (fun _ => ?_) (fun h => absurd rfl h)
      refine v_load rfl rfl ⟨rfl, Nat.le_of_ble_eq_true rfl⟩ ?_
      refine v_getp rfl rfl rfl ?_
      refine v_load rfl rfl ⟨rfl, Nat.le_of_ble_eq_true rfl⟩ ?_
      refine v_callr rfl ⟨Nat.le_of_ble_eq_true rfl, Nat.le_of_ble_eq_true rfl, rfl, Nat.le_of_ble_eq_true rfl, rfl⟩ ?_
      refine S_atT z_B2 hV ?_
      refine v_callr rfl ⟨Nat.le_of_ble_eq_true rfl, Nat.le_of_ble_eq_true rfl, rfl, Nat.le_of_ble_eq_true rfl, rfl⟩ ?_
      refine S_isDigit ?_
      refine v_ifeq rfl (fun h => ?_) (fun h => ?_)
      · rw [b2i_0] at h
        have k : Q (some (0, skp isDig t i)) M := k
        rw [skp_no (by rw [h]; decide)] at k
        refine v_load rfl rfl ⟨rfl, Nat.le_of_ble_eq_true rfl⟩ ?_
        exact v_ret rfl rfl k
      · rw [b2i_0] at h
        have k : Q (some (0, skp isDig t i)) M := k
        rw [skp_in (by omega) (by simpa using h)] at k
        refine v_iinc rfl rfl rfl (by omega) rfl ?_
        refine v_goto rfl ?_
        exact ih (i + 1) (by omega) (by omega) (by omega) k
    | true =>
      refine v_ifeq rfl (fun h => absurd h (by decide)) (fun _ => ?_)
      refine v_load rfl rfl ⟨rfl, Nat.le_of_ble_eq_true rfl⟩ ?_
      refine v_getp rfl rfl rfl ?_
      refine v_load rfl rfl ⟨rfl, Nat.le_of_ble_eq_true rfl⟩ ?_
      refine v_callr rfl ⟨Nat.le_of_ble_eq_true rfl, Nat.le_of_ble_eq_true rfl, rfl, Nat.le_of_ble_eq_true rfl, rfl⟩ ?_
      refine S_atT z_B2 hV ?_
      refine v_callr rfl ⟨Nat.le_of_ble_eq_true rfl, Nat.le_of_ble_eq_true rfl, rfl, Nat.le_of_ble_eq_true rfl, rfl⟩ ?_
      refine S_isLetter ?_
      refine v_ifeq rfl (fun h => ?_) (fun h => ?_)
      · rw [b2i_0] at h
        have k : Q (some (0, skp isLet t i)) M := k
        rw [skp_no (by rw [h]; decide)] at k
        refine v_load rfl rfl ⟨rfl, Nat.le_of_ble_eq_true rfl⟩ ?_
        exact v_ret rfl rfl k
      · rw [b2i_0] at h
        have k : Q (some (0, skp isLet t i)) M := k
        rw [skp_in (by omega) (by simpa using h)] at k
        refine v_goto rfl ?_
        refine v_iinc rfl rfl rfl (by omega) rfl ?_
        refine v_goto rfl ?_
        exact ih (i + 1) (by omega) (by omega) (by omega) k
theorem S_runEnd {fr : Int} {lt : Bool} (hV : BV M 2 t s) (h0 : 0 ≤ fr ∧ fr ≤ (t.length : Int)) (k : Q (some (0, skp (if lt then isLet else isDig) t fr)) M) : v_call L (d + 1) 76 [(2, 36), (0, fr), (0, b2i lt)] M Q := by
  refine v_in ?_
  refine v_load rfl rfl ⟨rfl, Nat.le_of_ble_eq_true rfl⟩ ?_
  refine v_store rfl ⟨rfl, Nat.le_of_ble_eq_true rfl, Nat.le_of_ble_eq_true rfl, rfl⟩ rfl ?_
  exact S_runEnd_loop hV _ fr rfl h0.1 h0.2 k
end SC
