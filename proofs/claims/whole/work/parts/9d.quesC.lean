/-! QUESTIONS: item, common, far, cover -/
theorem siz_1 {t : List Int} {i : Int} (hi : 0 ≤ i ∧ i < ((NT (toks t)).length : Int)) (h : (nd (NT (toks t)) i).2.2.1 = 0) : (nd (NT (toks t)) i).2.2.2.1 = 1 := by
  obtain ⟨cs, -, h2, h3, -⟩ := NT_nod (tkOK_toks t) (i := i.toNat) (by omega)
  rw [nd_in hi] at h ⊢
  rw [h2] at h
  rw [h3, List.length_eq_zero_iff.mp (show cs.length = 0 by omega)]
  rfl
theorem in_kid {t : List Int} {x y : Int} (hx : 0 ≤ x ∧ x < ((NT (toks t)).length : Int)) (h0 : x < y) : ∀ m : Nat, y < (posF (NT (toks t)) (x.toNat + 1) m : Int) → ∃ k : Nat, k < m ∧ (posF (NT (toks t)) (x.toNat + 1) k : Int) ≤ y ∧ y < (posF (NT (toks t)) (x.toNat + 1) (k + 1) : Int)
  | 0, h => by
    have h : y < ((x.toNat + 1 : Nat) : Int) := h
    omega
  | m + 1, h => by
    by_cases c : (posF (NT (toks t)) (x.toNat + 1) m : Int) ≤ y
    · exact ⟨m, by omega, c, h⟩
    · obtain ⟨k, h1, h2⟩ := in_kid hx h0 m (by omega)
      exact ⟨k, by omega, h2⟩
/-- what is within a node: its parent too -/
theorem NEST {t : List Int} : ∀ (n : Nat) (x : Int), ((NT (toks t)).length : Int) - x ≤ (n : Int) → 0 ≤ x → x < ((NT (toks t)).length : Int) → ∀ y, x < y → y < x + (nd (NT (toks t)) x).2.2.2.1 → x ≤ (nd (NT (toks t)) y).2.1 ∧ y + (nd (NT (toks t)) y).2.2.2.1 ≤ x + (nd (NT (toks t)) x).2.2.2.1 ∧ y < (nd (NT (toks t)) y).2.1 + (nd (NT (toks t)) (nd (NT (toks t)) y).2.1).2.2.2.1 ∧ (nd (NT (toks t)) y).2.2.2.2.1 = (nd (NT (toks t)) (nd (NT (toks t)) y).2.1).2.2.2.2.1 + 1 ∧ (nd (NT (toks t)) x).2.2.2.2.1 < (nd (NT (toks t)) y).2.2.2.2.1
  | 0, x, hn, h0, h1 => by omega
  | n + 1, x, hn, h0, h1 => by
    intro y hy hy'
    have hk : 0 < (nd (NT (toks t)) x).2.2.1 := by
      have := NT_siz (t := t) ⟨h0, h1⟩
      by_cases c : (nd (NT (toks t)) x).2.2.1 = 0
      · have := siz_1 ⟨h0, h1⟩ c; omega
      · omega
    have e := (KID (t := t) ⟨h0, h1⟩ (k := (nd (NT (toks t)) x).2.2.1.toNat - 1) (by omega)).2.2.2.2.2.2.2.1 (by omega)
    rw [show (nd (NT (toks t)) x).2.2.1.toNat - 1 + 1 = (nd (NT (toks t)) x).2.2.1.toNat by omega] at e
    obtain ⟨k, k1, k2, k3⟩ := in_kid (t := t) ⟨h0, h1⟩ hy _ (by rw [e]; exact hy')
    obtain ⟨a1, a2, a3, a4, a5, a6, a7, -⟩ := KID (t := t) ⟨h0, h1⟩ (k := k) (by omega)
    generalize (posF (NT (toks t)) (x.toNat + 1) k : Int) = z at *
    by_cases c : y = z
    · subst c
      rw [a3]
      exact ⟨by omega, by omega, by omega, a4, by omega⟩
    · have := NEST n z (by omega) (by omega) a2 y (by omega) (by omega)
      exact ⟨by omega, by omega, this.2.2.1, this.2.2.2.1, by omega⟩
theorem root_siz {t : List Int} : (nd (NT (toks t)) 0).2.2.2.1 = ((NT (toks t)).length : Int) ∧ (nd (NT (toks t)) 0).2.2.2.2.1 = 1 ∧ (0 : Int) < ((NT (toks t)).length : Int) := by
  have hl := (NT_len (tkOK_toks t)).1
  have e : nd (NT (toks t)) 0 = (NT (toks t)).getD 0 n0 := nd_in ⟨by omega, by omega⟩
  rw [e]
  refine ⟨?_, ?_, by omega⟩
  · rw [hl, NT_eq]; show ((bal (itemsOf (toks t))).flatten.length : Int) + 1 = _; omega
  · rw [NT_eq]; rfl
theorem nest {t : List Int} {x y : Int} (hx : 0 ≤ x ∧ x < ((NT (toks t)).length : Int)) (h : x < y ∧ y < x + (nd (NT (toks t)) x).2.2.2.1) : x ≤ (nd (NT (toks t)) y).2.1 ∧ y + (nd (NT (toks t)) y).2.2.2.1 ≤ x + (nd (NT (toks t)) x).2.2.2.1 ∧ (nd (NT (toks t)) x).2.2.2.2.1 < (nd (NT (toks t)) y).2.2.2.2.1 := by
  have := NEST (t := t) (((NT (toks t)).length : Int) - x).toNat x (by omega) hx.1 hx.2 y h.1 h.2
  exact ⟨this.1, this.2.1, this.2.2.2.2⟩
theorem up_in {t : List Int} {y : Int} (h : 0 < y ∧ y < ((NT (toks t)).length : Int)) : 0 ≤ (nd (NT (toks t)) y).2.1 ∧ (nd (NT (toks t)) y).2.1 < y ∧ y < (nd (NT (toks t)) y).2.1 + (nd (NT (toks t)) (nd (NT (toks t)) y).2.1).2.2.2.1 ∧ (nd (NT (toks t)) y).2.2.2.2.1 = (nd (NT (toks t)) (nd (NT (toks t)) y).2.1).2.2.2.2.1 + 1 := by
  have r := root_siz (t := t)
  have := NEST (t := t) (((NT (toks t)).length : Int) - 0).toNat 0 (by omega) (by omega) (by omega) y h.1 (by omega)
  have u := NT_upr (t := t) (i := y) ⟨by omega, h.2⟩
  exact ⟨this.1, u.2, this.2.2.1, this.2.2.2.1⟩
theorem dep_rng {t : List Int} : ∀ (n : Nat) (y : Int), y < (n : Int) → 0 ≤ y → y < ((NT (toks t)).length : Int) → 1 ≤ (nd (NT (toks t)) y).2.2.2.2.1 ∧ (nd (NT (toks t)) y).2.2.2.2.1 ≤ y + 1
  | 0, y, h, h0, h1 => by omega
  | n + 1, y, h, h0, h1 => by
    by_cases c : y = 0
    · subst c; rw [root_siz.2.1]; omega
    · have u := up_in (t := t) (y := y) ⟨by omega, h1⟩
      have := dep_rng (t := t) n (nd (NT (toks t)) y).2.1 (by omega) u.1 (by omega)
      omega
section QC
variable {L d n : Nat} {M : zM} {Q : Option zV → zM → Prop} {s : zA} {t : List Int}
/-- how many of a kind are around -/
noncomputable def arG (t : List Int) (p : Int → Bool) : Nat → Int → Int
  | 0, _ => 0
  | n + 1, a => if a = -1 then 0 else (if p (nd (NT (toks t)) a).1 = true then 1 else 0) + arG t p n (nd (NT (toks t)) a).2.1
theorem arG_s {p : Int → Bool} {n : Nat} {a : Int} (h : ¬ a = -1) : arG t p (n + 1) a = (if p (nd (NT (toks t)) a).1 = true then 1 else 0) + arG t p n (nd (NT (toks t)) a).2.1 := if_neg h
theorem arG_m {p : Int → Bool} : ∀ n : Nat, arG t p n (-1) = 0
  | 0 => rfl
  | n + 1 => if_pos rfl
theorem arG_rng {p : Int → Bool} : ∀ (n : Nat) (a : Int), 0 ≤ arG t p n a ∧ arG t p n a ≤ (n : Int)
  | 0, a => ⟨Int.le_refl _, Int.le_refl _⟩
  | n + 1, a => by
    have := arG_rng (p := p) n (nd (NT (toks t)) a).2.1
    unfold arG
    repeat' split
    all_goals omega
theorem arG_or {p q r : Int → Bool} (h : ∀ x, (if r x = true then (1 : Int) else 0) = (if p x = true then 1 else 0) + (if q x = true then 1 else 0)) : ∀ (n : Nat) (a : Int), arG t r n a = arG t p n a + arG t q n a
  | 0, a => rfl
  | n + 1, a => by
    have := arG_or h n (nd (NT (toks t)) a).2.1
    by_cases c : a = -1
    · subst c; rw [arG_m, arG_m, arG_m]; rfl
    · rw [arG_s c, arG_s c, arG_s c, h, this]; omega
def isS (so : Int) (x : Int) : Bool := decide (x = so)
def isS2 (so o : Int) (x : Int) : Bool := decide (x = so ∨ x = o)
theorem S_manyAr_loop {so i : Int} (hs : 0 ≤ so) (hN : RN (NT (toks t)) M) : ∀ (n : Nat) (a j m : Int), a < (n : Int) → -1 ≤ a → a < ((NT (toks t)).length : Int) → 0 ≤ j → j + a + 1 ≤ 1216 → 0 ≤ m → m + a ≤ 2000 → Q (some (0, m + arG t (isS so) n a)) M → v_wp L (d + 2) 105 12 [(2, 42), (0, i), (0, so), (0, m), (0, a), (0, j)] [] M Q := by
  intro n
  induction n with
  | zero =>
    intro a j m h1 h2 h3 h4 h5 h6 h7 k
    have ea : a = -1 := by omega
    subst ea
    have k : Q (some (0, m + 0)) M := k
    rw [Int.add_zero] at k
    refine v_load rfl rfl ⟨rfl, Nat.le_of_ble_eq_true rfl⟩ ?_
    refine v_push rfl ?_
    refine v_ige rfl (fun c1 => ?_) (fun c1 => ?_)
    · refine v_load rfl rfl ⟨rfl, Nat.le_of_ble_eq_true rfl⟩ ?_
      refine v_ret rfl rfl ?_
      exact k
    · refine v_load rfl rfl ⟨rfl, Nat.le_of_ble_eq_true rfl⟩ ?_
      refine v_push rfl ?_
      refine v_ieq rfl (fun _ => ?_) (fun h => absurd h (by omega))
      refine v_load rfl rfl ⟨rfl, Nat.le_of_ble_eq_true rfl⟩ ?_
      refine v_ret rfl rfl ?_
      exact k
  | succ n ih =>
    intro a j m h1 h2 h3 h4 h5 h6 h7 k
    by_cases c : a = -1
    · subst c
      rw [arG_m, Int.add_zero] at k
      refine v_load rfl rfl ⟨rfl, Nat.le_of_ble_eq_true rfl⟩ ?_
      refine v_push rfl ?_
      refine v_ige rfl (fun c1 => ?_) (fun c1 => ?_)
      · refine v_load rfl rfl ⟨rfl, Nat.le_of_ble_eq_true rfl⟩ ?_
        refine v_ret rfl rfl ?_
        exact k
      · refine v_load rfl rfl ⟨rfl, Nat.le_of_ble_eq_true rfl⟩ ?_
        refine v_push rfl ?_
        refine v_ieq rfl (fun _ => ?_) (fun h => absurd h (by omega))
        refine v_load rfl rfl ⟨rfl, Nat.le_of_ble_eq_true rfl⟩ ?_
        refine v_ret rfl rfl ?_
        exact k
    · have u := NT_upr (t := t) (i := a) ⟨by omega, h3⟩
      rw [arG_s c] at k
      by_cases c1 : (nd (NT (toks t)) a).1 = so
      · rw [if_pos (show isS so _ = true from decide_eq_true c1), ← Int.add_assoc] at k
        refine v_load rfl rfl ⟨rfl, Nat.le_of_ble_eq_true rfl⟩ ?_
        refine v_push rfl ?_
        refine v_ige rfl (fun h => absurd h (by omega)) (fun _ => ?_)
        refine v_load rfl rfl ⟨rfl, Nat.le_of_ble_eq_true rfl⟩ ?_
        refine v_push rfl ?_
        refine v_ieq rfl (fun h => absurd h (by omega)) (fun _ => ?_)
        refine v_load rfl rfl ⟨rfl, Nat.le_of_ble_eq_true rfl⟩ ?_
        refine v_load rfl rfl ⟨rfl, Nat.le_of_ble_eq_true rfl⟩ ?_
        refine v_load rfl rfl ⟨rfl, Nat.le_of_ble_eq_true rfl⟩ ?_
        refine v_load rfl rfl ⟨rfl, Nat.le_of_ble_eq_true rfl⟩ ?_
        refine v_callr rfl ⟨Nat.le_of_ble_eq_true rfl, Nat.le_of_ble_eq_true rfl, rfl, Nat.le_of_ble_eq_true rfl, rfl⟩ ?_
        refine S_ndIsOf hN hs ?_
        rw [b2i_t (decide_eq_true c1)]
        refine v_ifeq rfl (fun h => absurd h (by decide)) (fun _ => ?_)
        refine v_push rfl ?_
        refine v_goto rfl ?_
        refine v_add rfl (by omega) ?_
        refine v_store rfl ⟨rfl, Nat.le_of_ble_eq_true rfl, Nat.le_of_ble_eq_true rfl, rfl⟩ rfl ?_
        refine v_load rfl rfl ⟨rfl, Nat.le_of_ble_eq_true rfl⟩ ?_
        refine v_load rfl rfl ⟨rfl, Nat.le_of_ble_eq_true rfl⟩ ?_
        refine v_callr rfl ⟨Nat.le_of_ble_eq_true rfl, Nat.le_of_ble_eq_true rfl, rfl, Nat.le_of_ble_eq_true rfl, rfl⟩ ?_
        refine S_ndUp hN ?_
        refine v_store rfl ⟨rfl, Nat.le_of_ble_eq_true rfl, Nat.le_of_ble_eq_true rfl, rfl⟩ rfl ?_
        refine v_iinc rfl rfl rfl (by omega) rfl ?_
        refine v_goto rfl ?_
        exact ih _ _ _ (by omega) (by omega) (by omega) (by omega) (by omega) (by omega) (by omega) k
      · rw [if_neg (show ¬ isS so _ = true from fun z => c1 (of_decide_eq_true z)), ← Int.add_assoc] at k
        refine v_load rfl rfl ⟨rfl, Nat.le_of_ble_eq_true rfl⟩ ?_
        refine v_push rfl ?_
        refine v_ige rfl (fun h => absurd h (by omega)) (fun _ => ?_)
        refine v_load rfl rfl ⟨rfl, Nat.le_of_ble_eq_true rfl⟩ ?_
        refine v_push rfl ?_
        refine v_ieq rfl (fun h => absurd h (by omega)) (fun _ => ?_)
        refine v_load rfl rfl ⟨rfl, Nat.le_of_ble_eq_true rfl⟩ ?_
        refine v_load rfl rfl ⟨rfl, Nat.le_of_ble_eq_true rfl⟩ ?_
        refine v_load rfl rfl ⟨rfl, Nat.le_of_ble_eq_true rfl⟩ ?_
        refine v_load rfl rfl ⟨rfl, Nat.le_of_ble_eq_true rfl⟩ ?_
        refine v_callr rfl ⟨Nat.le_of_ble_eq_true rfl, Nat.le_of_ble_eq_true rfl, rfl, Nat.le_of_ble_eq_true rfl, rfl⟩ ?_
        refine S_ndIsOf hN hs ?_
        rw [b2i_f (by simpa using c1)]
        refine v_ifeq rfl (fun _ => ?_) (fun h => absurd h (by decide))
        refine v_push rfl ?_
        refine v_add rfl (by omega) ?_
        refine v_store rfl ⟨rfl, Nat.le_of_ble_eq_true rfl, Nat.le_of_ble_eq_true rfl, rfl⟩ rfl ?_
        refine v_load rfl rfl ⟨rfl, Nat.le_of_ble_eq_true rfl⟩ ?_
        refine v_load rfl rfl ⟨rfl, Nat.le_of_ble_eq_true rfl⟩ ?_
        refine v_callr rfl ⟨Nat.le_of_ble_eq_true rfl, Nat.le_of_ble_eq_true rfl, rfl, Nat.le_of_ble_eq_true rfl, rfl⟩ ?_
        refine S_ndUp hN ?_
        refine v_store rfl ⟨rfl, Nat.le_of_ble_eq_true rfl, Nat.le_of_ble_eq_true rfl, rfl⟩ rfl ?_
        refine v_iinc rfl rfl rfl (by omega) rfl ?_
        refine v_goto rfl ?_
        exact ih _ _ _ (by omega) (by omega) (by omega) (by omega) (by omega) (by omega) (by omega) k
theorem S_manyAr {so i : Int} (hs : 0 ≤ so) (hN : RN (NT (toks t)) M) (hi : 0 ≤ i ∧ i < ((NT (toks t)).length : Int)) (k : Q (some (0, arG t (isS so) 1217 (nd (NT (toks t)) i).2.1)) M) : v_call L (d + 2) 105 [(2, 42), (0, i), (0, so)] M Q := by
  have hl : (NT (toks t)).length ≤ 1216 := hN.2.1
  have u := NT_upr hi
  refine v_in ?_
  refine v_push rfl ?_
  refine v_store rfl ⟨rfl, Nat.le_of_ble_eq_true rfl, Nat.le_of_ble_eq_true rfl, rfl⟩ rfl ?_
  refine v_load rfl rfl ⟨rfl, Nat.le_of_ble_eq_true rfl⟩ ?_
  refine v_load rfl rfl ⟨rfl, Nat.le_of_ble_eq_true rfl⟩ ?_
  refine v_callr rfl ⟨Nat.le_of_ble_eq_true rfl, Nat.le_of_ble_eq_true rfl, rfl, Nat.le_of_ble_eq_true rfl, rfl⟩ ?_
  refine S_ndUp hN ?_
  refine v_store rfl ⟨rfl, Nat.le_of_ble_eq_true rfl, Nat.le_of_ble_eq_true rfl, rfl⟩ rfl ?_
  refine v_push rfl ?_
  refine v_store rfl ⟨rfl, Nat.le_of_ble_eq_true rfl, Nat.le_of_ble_eq_true rfl, rfl⟩ rfl ?_
  exact S_manyAr_loop hs hN 1217 _ _ _ (by omega) (by omega) (by omega) (by omega) (by omega) (by omega) (by omega) (by rw [Int.zero_add]; exact k)
theorem R_manyAr_loop {so o i : Int} (hS : RSt t M) : ∀ (n : Nat) (a m : Int), a < (n : Int) → -1 ≤ a → a < ((NT (toks t)).length : Int) → 0 ≤ m → m + a ≤ 2000 → Q (some (0, m + arG t (isS2 so o) n a)) M → v_wp L (d + 2) 308 11 [(2, 77), (0, i), (0, so), (0, o), (0, m), (0, a)] [] M Q := by
  intro n
  have hl := NT_1216 hS
  induction n with
  | zero =>
    intro a m h1 h2 h3 h6 h7 k
    have ea : a = -1 := by omega
    subst ea
    have k : Q (some (0, m + 0)) M := k
    rw [Int.add_zero] at k
    refine v_load rfl rfl ⟨rfl, Nat.le_of_ble_eq_true rfl⟩ ?_
    refine v_push rfl ?_
    refine v_ieq rfl (fun _ => ?_) (fun h => absurd h (by omega))
    refine v_load rfl rfl ⟨rfl, Nat.le_of_ble_eq_true rfl⟩ ?_
    refine v_ret rfl rfl ?_
    exact k
  | succ n ih =>
    intro a m h1 h2 h3 h6 h7 k
    by_cases c : a = -1
    · subst c
      rw [arG_m, Int.add_zero] at k
      refine v_load rfl rfl ⟨rfl, Nat.le_of_ble_eq_true rfl⟩ ?_
      refine v_push rfl ?_
      refine v_ieq rfl (fun _ => ?_) (fun h => absurd h (by omega))
      refine v_load rfl rfl ⟨rfl, Nat.le_of_ble_eq_true rfl⟩ ?_
      refine v_ret rfl rfl ?_
      exact k
    · have u := NT_upr (t := t) (i := a) ⟨by omega, h3⟩
      obtain ⟨g1, g2, -⟩ := TM_nd hS (i := a) ⟨by omega, h3⟩
      rw [arG_s c] at k
      by_cases c1 : (nd (NT (toks t)) a).1 = so
      · rw [if_pos (show isS2 so o _ = true from decide_eq_true (Or.inl c1)), ← Int.add_assoc] at k
        refine v_load rfl rfl ⟨rfl, Nat.le_of_ble_eq_true rfl⟩ ?_
        refine v_push rfl ?_
        refine v_ieq rfl (fun h => absurd h (by omega)) (fun _ => ?_)
        refine v_load rfl rfl ⟨rfl, Nat.le_of_ble_eq_true rfl⟩ ?_
        refine v_getp rfl rfl rfl ?_
        refine v_load rfl rfl ⟨rfl, Nat.le_of_ble_eq_true rfl⟩ ?_
        refine v_ald9 rfl rfl ⟨by omega, by show _ < (1600 : Int); omega⟩ ?_
        rw [g1]
        refine v_load rfl rfl ⟨rfl, Nat.le_of_ble_eq_true rfl⟩ ?_
        refine v_ieq rfl (fun _ => ?_) (fun h => absurd h (by omega))
        refine v_load rfl rfl ⟨rfl, Nat.le_of_ble_eq_true rfl⟩ ?_
        refine v_push rfl ?_
        refine v_add rfl (by omega) ?_
        refine v_goto rfl ?_
        refine v_store rfl ⟨rfl, Nat.le_of_ble_eq_true rfl, Nat.le_of_ble_eq_true rfl, rfl⟩ rfl ?_
        refine v_load rfl rfl ⟨rfl, Nat.le_of_ble_eq_true rfl⟩ ?_
        refine v_getp rfl rfl rfl ?_
        refine v_load rfl rfl ⟨rfl, Nat.le_of_ble_eq_true rfl⟩ ?_
        refine v_ald9 rfl rfl ⟨by omega, by show _ < (1600 : Int); omega⟩ ?_
        rw [g2]
        refine v_store rfl ⟨rfl, Nat.le_of_ble_eq_true rfl, Nat.le_of_ble_eq_true rfl, rfl⟩ rfl ?_
        refine v_goto rfl ?_
        exact ih _ _ (by omega) (by omega) (by omega) (by omega) (by omega) k
      · by_cases c2 : (nd (NT (toks t)) a).1 = o
        · rw [if_pos (show isS2 so o _ = true from decide_eq_true (Or.inr c2)), ← Int.add_assoc] at k
          refine v_load rfl rfl ⟨rfl, Nat.le_of_ble_eq_true rfl⟩ ?_
          refine v_push rfl ?_
          refine v_ieq rfl (fun h => absurd h (by omega)) (fun _ => ?_)
          refine v_load rfl rfl ⟨rfl, Nat.le_of_ble_eq_true rfl⟩ ?_
          refine v_getp rfl rfl rfl ?_
          refine v_load rfl rfl ⟨rfl, Nat.le_of_ble_eq_true rfl⟩ ?_
          refine v_ald9 rfl rfl ⟨by omega, by show _ < (1600 : Int); omega⟩ ?_
          rw [g1]
          refine v_load rfl rfl ⟨rfl, Nat.le_of_ble_eq_true rfl⟩ ?_
          refine v_ieq rfl (fun h => absurd h (by omega)) (fun _ => ?_)
          refine v_load rfl rfl ⟨rfl, Nat.le_of_ble_eq_true rfl⟩ ?_
          refine v_getp rfl rfl rfl ?_
          refine v_load rfl rfl ⟨rfl, Nat.le_of_ble_eq_true rfl⟩ ?_
          refine v_ald9 rfl rfl ⟨by omega, by show _ < (1600 : Int); omega⟩ ?_
          rw [g1]
          refine v_load rfl rfl ⟨rfl, Nat.le_of_ble_eq_true rfl⟩ ?_
          refine v_ine rfl (fun h => absurd h (by omega)) (fun _ => ?_)
          refine v_load rfl rfl ⟨rfl, Nat.le_of_ble_eq_true rfl⟩ ?_
          refine v_push rfl ?_
          refine v_add rfl (by omega) ?_
          refine v_goto rfl ?_
          refine v_store rfl ⟨rfl, Nat.le_of_ble_eq_true rfl, Nat.le_of_ble_eq_true rfl, rfl⟩ rfl ?_
          refine v_load rfl rfl ⟨rfl, Nat.le_of_ble_eq_true rfl⟩ ?_
          refine v_getp rfl rfl rfl ?_
          refine v_load rfl rfl ⟨rfl, Nat.le_of_ble_eq_true rfl⟩ ?_
          refine v_ald9 rfl rfl ⟨by omega, by show _ < (1600 : Int); omega⟩ ?_
          rw [g2]
          refine v_store rfl ⟨rfl, Nat.le_of_ble_eq_true rfl, Nat.le_of_ble_eq_true rfl, rfl⟩ rfl ?_
          refine v_goto rfl ?_
          exact ih _ _ (by omega) (by omega) (by omega) (by omega) (by omega) k
        · rw [if_neg (show ¬ isS2 so o _ = true from fun z => (of_decide_eq_true z).elim c1 c2), ← Int.add_assoc, Int.add_zero] at k
          refine v_load rfl rfl ⟨rfl, Nat.le_of_ble_eq_true rfl⟩ ?_
          refine v_push rfl ?_
          refine v_ieq rfl (fun h => absurd h (by omega)) (fun _ => ?_)
          refine v_load rfl rfl ⟨rfl, Nat.le_of_ble_eq_true rfl⟩ ?_
          refine v_getp rfl rfl rfl ?_
          refine v_load rfl rfl ⟨rfl, Nat.le_of_ble_eq_true rfl⟩ ?_
          refine v_ald9 rfl rfl ⟨by omega, by show _ < (1600 : Int); omega⟩ ?_
          rw [g1]
          refine v_load rfl rfl ⟨rfl, Nat.le_of_ble_eq_true rfl⟩ ?_
          refine v_ieq rfl (fun h => absurd h (by omega)) (fun _ => ?_)
          refine v_load rfl rfl ⟨rfl, Nat.le_of_ble_eq_true rfl⟩ ?_
          refine v_getp rfl rfl rfl ?_
          refine v_load rfl rfl ⟨rfl, Nat.le_of_ble_eq_true rfl⟩ ?_
          refine v_ald9 rfl rfl ⟨by omega, by show _ < (1600 : Int); omega⟩ ?_
          rw [g1]
          refine v_load rfl rfl ⟨rfl, Nat.le_of_ble_eq_true rfl⟩ ?_
          refine v_ine rfl (fun _ => ?_) (fun h => absurd h (by omega))
          refine v_load rfl rfl ⟨rfl, Nat.le_of_ble_eq_true rfl⟩ ?_
          refine v_store rfl ⟨rfl, Nat.le_of_ble_eq_true rfl, Nat.le_of_ble_eq_true rfl, rfl⟩ rfl ?_
          refine v_load rfl rfl ⟨rfl, Nat.le_of_ble_eq_true rfl⟩ ?_
          refine v_getp rfl rfl rfl ?_
          refine v_load rfl rfl ⟨rfl, Nat.le_of_ble_eq_true rfl⟩ ?_
          refine v_ald9 rfl rfl ⟨by omega, by show _ < (1600 : Int); omega⟩ ?_
          rw [g2]
          refine v_store rfl ⟨rfl, Nat.le_of_ble_eq_true rfl, Nat.le_of_ble_eq_true rfl, rfl⟩ rfl ?_
          refine v_goto rfl ?_
          exact ih _ _ (by omega) (by omega) (by omega) (by omega) (by omega) k
theorem R_manyAr {so o i : Int} (hS : RSt t M) (hi : 0 ≤ i ∧ i < ((NT (toks t)).length : Int)) (k : Q (some (0, arG t (isS2 so o) 1217 (nd (NT (toks t)) i).2.1)) M) : v_call L (d + 2) 308 [(2, 77), (0, i), (0, so), (0, o)] M Q := by
  have hl := NT_1216 hS
  have u := NT_upr hi
  have g2 := (TM_nd hS hi).2.1
  refine v_in ?_
  refine v_push rfl ?_
  refine v_store rfl ⟨rfl, Nat.le_of_ble_eq_true rfl, Nat.le_of_ble_eq_true rfl, rfl⟩ rfl ?_
  refine v_load rfl rfl ⟨rfl, Nat.le_of_ble_eq_true rfl⟩ ?_
  refine v_getp rfl rfl rfl ?_
  refine v_load rfl rfl ⟨rfl, Nat.le_of_ble_eq_true rfl⟩ ?_
  refine v_ald9 rfl rfl ⟨by omega, by show _ < (1600 : Int); omega⟩ ?_
  rw [g2]
  refine v_store rfl ⟨rfl, Nat.le_of_ble_eq_true rfl, Nat.le_of_ble_eq_true rfl, rfl⟩ rfl ?_
  exact R_manyAr_loop hS 1217 _ _ (by omega) (by omega) (by omega) (by omega) (by omega) (by rw [Int.zero_add]; exact k)
/-- item -/
noncomputable def imP (t : List Int) (j : Nat) : Bool := itm (nd (NT (toks t)) (j : Int)).1
noncomputable def imA (t : List Int) (i f : Int) : Int := if f = 0 then i else if f = 1 then arG t (isS 5) 1217 (nd (NT (toks t)) i).2.1 else arG t (isS 6) 1217 (nd (NT (toks t)) i).2.1 + arG t (isS 7) 1217 (nd (NT (toks t)) i).2.1
noncomputable def imK (t : List Int) (m f : Int) : Int := if m = -1 then ((flt (imP t) (NT (toks t)).length).length : Int) else if m < ((flt (imP t) (NT (toks t)).length).length : Int) then imA t ((flt (imP t) (NT (toks t)).length).getD m.toNat 0 : Int) f else -2
noncomputable def itemQ (s : zA) (m f : Int) : Int := if -1 ≤ m ∧ (m = -1 ∨ (0 ≤ f ∧ f ≤ 2)) then imK s.1.1 m f else -1
theorem S_item_end {m f i l a : Int} (hm : 0 ≤ m) (hf : 0 ≤ f ∧ f ≤ 2) (hi : 0 ≤ i ∧ i < ((NT (toks t)).length : Int)) (hN : RN (NT (toks t)) M) (k : Q (some (0, imA t i f)) M) : v_wp L (d + 4) 171 81 [(2, 1), (0, m), (0, f), (0, l), (0, i), (0, a)] [] M Q := by
  unfold imA at k
  have r6 := arG_rng (t := t) (p := isS 6) 1217 (nd (NT (toks t)) i).2.1
  have r7 := arG_rng (t := t) (p := isS 7) 1217 (nd (NT (toks t)) i).2.1
  have : f = 0 ∨ f = 1 ∨ f = 2 := by omega
  rcases this with rfl | rfl | rfl
  · refine v_load rfl rfl ⟨rfl, Nat.le_of_ble_eq_true rfl⟩ ?_
    refine v_push rfl ?_
    refine v_ine rfl (fun _ => ?_) (fun h => absurd h (by omega))
    refine v_load rfl rfl ⟨rfl, Nat.le_of_ble_eq_true rfl⟩ ?_
    refine v_push rfl ?_
    refine v_ine rfl (fun _ => ?_) (fun h => absurd h (by omega))
    refine v_load rfl rfl ⟨rfl, Nat.le_of_ble_eq_true rfl⟩ ?_
    refine v_lsw rfl ?_
    refine v_load rfl rfl ⟨rfl, Nat.le_of_ble_eq_true rfl⟩ ?_
    refine v_ret rfl rfl ?_
    exact k
  · refine v_load rfl rfl ⟨rfl, Nat.le_of_ble_eq_true rfl⟩ ?_
    refine v_push rfl ?_
    refine v_ine rfl (fun _ => ?_) (fun h => absurd h (by omega))
    refine v_load rfl rfl ⟨rfl, Nat.le_of_ble_eq_true rfl⟩ ?_
    refine v_push rfl ?_
    refine v_ine rfl (fun _ => ?_) (fun h => absurd h (by omega))
    refine v_load rfl rfl ⟨rfl, Nat.le_of_ble_eq_true rfl⟩ ?_
    refine v_lsw rfl ?_
    refine v_load rfl rfl ⟨rfl, Nat.le_of_ble_eq_true rfl⟩ ?_
    refine v_getp rfl rfl rfl ?_
    refine v_load rfl rfl ⟨rfl, Nat.le_of_ble_eq_true rfl⟩ ?_
    refine v_push rfl ?_
    refine v_callr rfl ⟨Nat.le_of_ble_eq_true rfl, Nat.le_of_ble_eq_true rfl, rfl, Nat.le_of_ble_eq_true rfl, rfl⟩ ?_
    refine S_manyAr (by decide) hN hi ?_
    refine v_ret rfl rfl ?_
    exact k
  · refine v_load rfl rfl ⟨rfl, Nat.le_of_ble_eq_true rfl⟩ ?_
    refine v_push rfl ?_
    refine v_ine rfl (fun _ => ?_) (fun h => absurd h (by omega))
    refine v_load rfl rfl ⟨rfl, Nat.le_of_ble_eq_true rfl⟩ ?_
    refine v_push rfl ?_
    refine v_ine rfl (fun _ => ?_) (fun h => absurd h (by omega))
    refine v_load rfl rfl ⟨rfl, Nat.le_of_ble_eq_true rfl⟩ ?_
    refine v_lsw rfl ?_
    refine v_load rfl rfl ⟨rfl, Nat.le_of_ble_eq_true rfl⟩ ?_
    refine v_getp rfl rfl rfl ?_
    refine v_load rfl rfl ⟨rfl, Nat.le_of_ble_eq_true rfl⟩ ?_
    refine v_push rfl ?_
    refine v_callr rfl ⟨Nat.le_of_ble_eq_true rfl, Nat.le_of_ble_eq_true rfl, rfl, Nat.le_of_ble_eq_true rfl, rfl⟩ ?_
    refine S_manyAr (by decide) hN hi ?_
    refine v_load rfl rfl ⟨rfl, Nat.le_of_ble_eq_true rfl⟩ ?_
    refine v_getp rfl rfl rfl ?_
    refine v_load rfl rfl ⟨rfl, Nat.le_of_ble_eq_true rfl⟩ ?_
    refine v_push rfl ?_
    refine v_callr rfl ⟨Nat.le_of_ble_eq_true rfl, Nat.le_of_ble_eq_true rfl, rfl, Nat.le_of_ble_eq_true rfl, rfl⟩ ?_
    refine S_manyAr (by decide) hN hi ?_
    refine v_add rfl (by omega) ?_
    refine v_ret rfl rfl ?_
    exact k
theorem S_item_loop {m f : Int} (hm : -1 ≤ m) (hf : m = -1 ∨ (0 ≤ f ∧ f ≤ 2)) (hN : RN (NT (toks t)) M) (k : Q (some (0, imK t m f)) M) : ∀ (n j : Nat), n = (NT (toks t)).length - j → j ≤ (NT (toks t)).length → (m = -1 ∨ ((flt (imP t) j).length : Int) ≤ m) → v_wp L (d + 4) 171 29 [(2, 1), (0, m), (0, f), (0, ((flt (imP t) j).length : Int)), (0, -1), (0, (j : Int))] [] M Q := by
  intro n
  have hlN : (NT (toks t)).length ≤ 1216 := hN.2.1
  unfold imK at k
  induction n with
  | zero =>
    intro j hn hj he
    have ej : j = (NT (toks t)).length := by omega
    subst ej
    refine v_load rfl rfl ⟨rfl, Nat.le_of_ble_eq_true rfl⟩ ?_
    refine v_load rfl rfl ⟨rfl, Nat.le_of_ble_eq_true rfl⟩ ?_
    refine v_getp rfl rfl rfl ?_
    refine v_callr rfl ⟨Nat.le_of_ble_eq_true rfl, Nat.le_of_ble_eq_true rfl, rfl, Nat.le_of_ble_eq_true rfl, rfl⟩ ?_
    refine S_ndSize hN ?_
    refine v_ige rfl (fun _ => ?_) (fun h => absurd h (by omega))
    refine v_load rfl rfl ⟨rfl, Nat.le_of_ble_eq_true rfl⟩ ?_
    refine v_push rfl ?_
    refine v_ine rfl (fun c1 => ?_) (fun c1 => ?_)
    · refine v_load rfl rfl ⟨rfl, Nat.le_of_ble_eq_true rfl⟩ ?_
      refine v_push rfl ?_
      refine v_ine rfl (fun h => absurd h (by omega)) (fun _ => ?_)
      refine v_push rfl ?_
      refine v_ret rfl rfl ?_
      rw [if_neg c1, if_neg (by omega)] at k
      exact k
    · refine v_load rfl rfl ⟨rfl, Nat.le_of_ble_eq_true rfl⟩ ?_
      refine v_ret rfl rfl ?_
      rw [if_pos (by omega)] at k
      exact k
  | succ n ih =>
    intro j hn hj he
    by_cases c : imP t j = true
    · by_cases c2 : ((flt (imP t) j).length : Int) = m
      · have fa := flt_at (p := imP t) (n := (NT (toks t)).length) (j := j) (by omega) c
        rw [if_neg (by omega), if_pos (by omega), show m.toNat = (flt (imP t) j).length by omega, fa.2] at k
        have hfl := flt_len (imP t) j
        refine v_load rfl rfl ⟨rfl, Nat.le_of_ble_eq_true rfl⟩ ?_
        refine v_load rfl rfl ⟨rfl, Nat.le_of_ble_eq_true rfl⟩ ?_
        refine v_getp rfl rfl rfl ?_
        refine v_callr rfl ⟨Nat.le_of_ble_eq_true rfl, Nat.le_of_ble_eq_true rfl, rfl, Nat.le_of_ble_eq_true rfl, rfl⟩ ?_
        refine S_ndSize hN ?_
        refine v_ige rfl (fun h => absurd h (by omega)) (fun _ => ?_)
        refine v_load rfl rfl ⟨rfl, Nat.le_of_ble_eq_true rfl⟩ ?_
        refine v_push rfl ?_
        refine v_ine rfl (fun h => absurd h (by omega)) (fun _ => ?_)
        refine v_load rfl rfl ⟨rfl, Nat.le_of_ble_eq_true rfl⟩ ?_
        refine v_getp rfl rfl rfl ?_
        refine v_load rfl rfl ⟨rfl, Nat.le_of_ble_eq_true rfl⟩ ?_
        refine v_callr rfl ⟨Nat.le_of_ble_eq_true rfl, Nat.le_of_ble_eq_true rfl, rfl, Nat.le_of_ble_eq_true rfl, rfl⟩ ?_
        refine S_isItem hN ?_
        rw [b2i_t (show itm (nd (NT (toks t)) (j : Int)).1 = true from c)]
        refine v_ifeq rfl (fun h => absurd h (by decide)) (fun _ => ?_)
        refine v_load rfl rfl ⟨rfl, Nat.le_of_ble_eq_true rfl⟩ ?_
        refine v_load rfl rfl ⟨rfl, Nat.le_of_ble_eq_true rfl⟩ ?_
        refine v_ine rfl (fun h => absurd h (by omega)) (fun _ => ?_)
        refine v_load rfl rfl ⟨rfl, Nat.le_of_ble_eq_true rfl⟩ ?_
        refine v_goto rfl ?_
        refine v_store rfl ⟨rfl, Nat.le_of_ble_eq_true rfl, Nat.le_of_ble_eq_true rfl, rfl⟩ rfl ?_
        refine v_iinc rfl rfl rfl (by omega) rfl ?_
        refine v_iinc rfl rfl rfl (by omega) rfl ?_
        refine v_goto rfl ?_
        refine v_load rfl rfl ⟨rfl, Nat.le_of_ble_eq_true rfl⟩ ?_
        refine v_load rfl rfl ⟨rfl, Nat.le_of_ble_eq_true rfl⟩ ?_
        refine v_getp rfl rfl rfl ?_
        refine v_callr rfl ⟨Nat.le_of_ble_eq_true rfl, Nat.le_of_ble_eq_true rfl, rfl, Nat.le_of_ble_eq_true rfl, rfl⟩ ?_
        refine S_ndSize hN ?_
        refine v_ige rfl (fun c3 => ?_) (fun c3 => ?_)
        · exact S_item_end (d := d) (by omega) (by omega) ⟨by omega, by omega⟩ hN k
        · refine v_load rfl rfl ⟨rfl, Nat.le_of_ble_eq_true rfl⟩ ?_
          refine v_push rfl ?_
          refine v_ine rfl (fun _ => ?_) (fun h => absurd h (by omega))
          exact S_item_end (d := d) (by omega) (by omega) ⟨by omega, by omega⟩ hN k
      · have e : (flt (imP t) (j + 1)).length = (flt (imP t) j).length + 1 := by rw [flt_y c]; simp
        have ihh := ih (j + 1) (by omega) (by omega) (by omega)
        rw [e, show (((flt (imP t) j).length + 1 : Nat) : Int) = ((flt (imP t) j).length : Int) + 1 by omega, show ((j + 1 : Nat) : Int) = (j : Int) + 1 by omega] at ihh
        have hfl := flt_len (imP t) j
        refine v_load rfl rfl ⟨rfl, Nat.le_of_ble_eq_true rfl⟩ ?_
        refine v_load rfl rfl ⟨rfl, Nat.le_of_ble_eq_true rfl⟩ ?_
        refine v_getp rfl rfl rfl ?_
        refine v_callr rfl ⟨Nat.le_of_ble_eq_true rfl, Nat.le_of_ble_eq_true rfl, rfl, Nat.le_of_ble_eq_true rfl, rfl⟩ ?_
        refine S_ndSize hN ?_
        refine v_ige rfl (fun h => absurd h (by omega)) (fun _ => ?_)
        refine v_load rfl rfl ⟨rfl, Nat.le_of_ble_eq_true rfl⟩ ?_
        refine v_push rfl ?_
        refine v_ine rfl (fun h => absurd h (by omega)) (fun _ => ?_)
        refine v_load rfl rfl ⟨rfl, Nat.le_of_ble_eq_true rfl⟩ ?_
        refine v_getp rfl rfl rfl ?_
        refine v_load rfl rfl ⟨rfl, Nat.le_of_ble_eq_true rfl⟩ ?_
        refine v_callr rfl ⟨Nat.le_of_ble_eq_true rfl, Nat.le_of_ble_eq_true rfl, rfl, Nat.le_of_ble_eq_true rfl, rfl⟩ ?_
        refine S_isItem hN ?_
        rw [b2i_t (show itm (nd (NT (toks t)) (j : Int)).1 = true from c)]
        refine v_ifeq rfl (fun h => absurd h (by decide)) (fun _ => ?_)
        refine v_load rfl rfl ⟨rfl, Nat.le_of_ble_eq_true rfl⟩ ?_
        refine v_load rfl rfl ⟨rfl, Nat.le_of_ble_eq_true rfl⟩ ?_
        refine v_ine rfl (fun _ => ?_) (fun h => absurd h (by omega))
        refine v_push rfl ?_
        refine v_store rfl ⟨rfl, Nat.le_of_ble_eq_true rfl, Nat.le_of_ble_eq_true rfl, rfl⟩ rfl ?_
        refine v_iinc rfl rfl rfl (by omega) rfl ?_
        refine v_iinc rfl rfl rfl (by omega) rfl ?_
        refine v_goto rfl ?_
        exact ihh
    · have ihh := ih (j + 1) (by omega) (by omega) (by rw [flt_n c]; exact he)
      rw [flt_n c, show ((j + 1 : Nat) : Int) = (j : Int) + 1 by omega] at ihh
      refine v_load rfl rfl ⟨rfl, Nat.le_of_ble_eq_true rfl⟩ ?_
      refine v_load rfl rfl ⟨rfl, Nat.le_of_ble_eq_true rfl⟩ ?_
      refine v_getp rfl rfl rfl ?_
      refine v_callr rfl ⟨Nat.le_of_ble_eq_true rfl, Nat.le_of_ble_eq_true rfl, rfl, Nat.le_of_ble_eq_true rfl, rfl⟩ ?_
      refine S_ndSize hN ?_
      refine v_ige rfl (fun h => absurd h (by omega)) (fun _ => ?_)
      refine v_load rfl rfl ⟨rfl, Nat.le_of_ble_eq_true rfl⟩ ?_
      refine v_push rfl ?_
      refine v_ine rfl (fun h => absurd h (by omega)) (fun _ => ?_)
      refine v_load rfl rfl ⟨rfl, Nat.le_of_ble_eq_true rfl⟩ ?_
      refine v_getp rfl rfl rfl ?_
      refine v_load rfl rfl ⟨rfl, Nat.le_of_ble_eq_true rfl⟩ ?_
      refine v_callr rfl ⟨Nat.le_of_ble_eq_true rfl, Nat.le_of_ble_eq_true rfl, rfl, Nat.le_of_ble_eq_true rfl, rfl⟩ ?_
      refine S_isItem hN ?_
      rw [b2i_f (show ¬ itm (nd (NT (toks t)) (j : Int)).1 = true from c)]
      refine v_ifeq rfl (fun _ => ?_) (fun h => absurd h (by decide))
      refine v_iinc rfl rfl rfl (by omega) rfl ?_
      refine v_goto rfl ?_
      exact ihh
theorem S_item {m f : Int} (hC : CS s M) (k : Q (some (0, itemQ s m f)) M) : v_call L (d + 10) 171 [(2, 1), (0, m), (0, f)] M Q := by
  have h6 := hC.2.2.2.2.2.1
  unfold itemQ at k
  refine v_in ?_
  by_cases c : -1 ≤ m ∧ (m = -1 ∨ (0 ≤ f ∧ f ≤ 2))
  · rw [if_pos c] at k
    have go := S_item_loop (L := L) (d := d + 6) c.1 c.2 h6.1 k _ 0 rfl (Nat.zero_le _) (by show m = -1 ∨ ((0 : Nat) : Int) ≤ m; omega)
    by_cases c1 : m = -1
    · refine v_load rfl rfl ⟨rfl, Nat.le_of_ble_eq_true rfl⟩ ?_
      refine v_push rfl ?_
      refine v_ilt rfl (fun h => absurd h (by omega)) (fun _ => ?_)
      refine v_load rfl rfl ⟨rfl, Nat.le_of_ble_eq_true rfl⟩ ?_
      refine v_push rfl ?_
      refine v_ieq rfl (fun _ => ?_) (fun h => absurd h (by omega))
      refine v_push rfl ?_
      refine v_store rfl ⟨rfl, Nat.le_of_ble_eq_true rfl, Nat.le_of_ble_eq_true rfl, rfl⟩ rfl ?_
      refine v_push rfl ?_
      refine v_store rfl ⟨rfl, Nat.le_of_ble_eq_true rfl, Nat.le_of_ble_eq_true rfl, rfl⟩ rfl ?_
      refine v_push rfl ?_
      refine v_store rfl ⟨rfl, Nat.le_of_ble_eq_true rfl, Nat.le_of_ble_eq_true rfl, rfl⟩ rfl ?_
      exact go
    · refine v_load rfl rfl ⟨rfl, Nat.le_of_ble_eq_true rfl⟩ ?_
      refine v_push rfl ?_
      refine v_ilt rfl (fun h => absurd h (by omega)) (fun _ => ?_)
      refine v_load rfl rfl ⟨rfl, Nat.le_of_ble_eq_true rfl⟩ ?_
      refine v_push rfl ?_
      refine v_ieq rfl (fun h => absurd h (by omega)) (fun _ => ?_)
      refine v_load rfl rfl ⟨rfl, Nat.le_of_ble_eq_true rfl⟩ ?_
      refine v_iflt rfl (fun h => absurd h (by omega)) (fun _ => ?_)
      refine v_load rfl rfl ⟨rfl, Nat.le_of_ble_eq_true rfl⟩ ?_
      refine v_push rfl ?_
      refine v_ile rfl (fun _ => ?_) (fun h => absurd h (by omega))
      refine v_push rfl ?_
      refine v_store rfl ⟨rfl, Nat.le_of_ble_eq_true rfl, Nat.le_of_ble_eq_true rfl, rfl⟩ rfl ?_
      refine v_push rfl ?_
      refine v_store rfl ⟨rfl, Nat.le_of_ble_eq_true rfl, Nat.le_of_ble_eq_true rfl, rfl⟩ rfl ?_
      refine v_push rfl ?_
      refine v_store rfl ⟨rfl, Nat.le_of_ble_eq_true rfl, Nat.le_of_ble_eq_true rfl, rfl⟩ rfl ?_
      exact go
  · rw [if_neg c] at k
    refine v_load rfl rfl ⟨rfl, Nat.le_of_ble_eq_true rfl⟩ ?_
    refine v_push rfl ?_
    refine v_ilt rfl (fun c1 => ?_) (fun c1 => ?_)
    · refine v_push rfl ?_
      refine v_ret rfl rfl ?_
      first | exact k | (exfalso; omega)
    · refine v_load rfl rfl ⟨rfl, Nat.le_of_ble_eq_true rfl⟩ ?_
      refine v_push rfl ?_
      refine v_ieq rfl (fun c2 => ?_) (fun c2 => ?_)
      · first | exact k | (exfalso; omega)
      · refine v_load rfl rfl ⟨rfl, Nat.le_of_ble_eq_true rfl⟩ ?_
        refine v_iflt rfl (fun c3 => ?_) (fun c3 => ?_)
        · refine v_push rfl ?_
          refine v_ret rfl rfl ?_
          first | exact k | (exfalso; omega)
        · refine v_load rfl rfl ⟨rfl, Nat.le_of_ble_eq_true rfl⟩ ?_
          refine v_push rfl ?_
          refine v_ile rfl (fun c4 => ?_) (fun c4 => ?_)
          · first | exact k | (exfalso; omega)
          · refine v_push rfl ?_
            refine v_ret rfl rfl ?_
            first | exact k | (exfalso; omega)
theorem R_item_loop {m f : Int} (hm : -1 ≤ m) (hf : m = -1 ∨ (0 ≤ f ∧ f ≤ 2)) (hS : RSt t M) (k : Q (some (0, imK t m f)) M) : ∀ (n j : Nat), n = (NT (toks t)).length - j → j ≤ (NT (toks t)).length → (m = -1 ∨ ((flt (imP t) j).length : Int) ≤ m) → v_wp L (d + 4) 309 26 [(2, 77), (0, m), (0, f), (0, ((flt (imP t) j).length : Int)), (0, (j : Int))] [] M Q := by
  intro n
  have hlN := NT_1216 hS
  have h44 := (TM_len hS.2.2.1).1
  unfold imK at k
  induction n with
  | zero =>
    intro j hn hj he
    have ej : j = (NT (toks t)).length := by omega
    subst ej
    refine v_load rfl rfl ⟨rfl, Nat.le_of_ble_eq_true rfl⟩ ?_
    refine v_load rfl rfl ⟨rfl, Nat.le_of_ble_eq_true rfl⟩ ?_
    refine v_getx rfl rfl (h44) ?_
    refine v_ige rfl (fun _ => ?_) (fun h => absurd h (by omega))
    refine v_load rfl rfl ⟨rfl, Nat.le_of_ble_eq_true rfl⟩ ?_
    refine v_push rfl ?_
    refine v_ine rfl (fun c1 => ?_) (fun c1 => ?_)
    · refine v_push rfl ?_
      refine v_ret rfl rfl ?_
      rw [if_neg c1, if_neg (by omega)] at k
      exact k
    · refine v_load rfl rfl ⟨rfl, Nat.le_of_ble_eq_true rfl⟩ ?_
      refine v_goto rfl ?_
      refine v_ret rfl rfl ?_
      rw [if_pos (by omega)] at k
      exact k
  | succ n ih =>
    intro j hn hj he
    have hj32 : z_i32 (j : Int) := by unfold z_i32; omega
    by_cases c : imP t j = true
    · by_cases c2 : ((flt (imP t) j).length : Int) = m
      · have fa := flt_at (p := imP t) (n := (NT (toks t)).length) (j := j) (by omega) c
        rw [if_neg (by omega), if_pos (by omega), show m.toNat = (flt (imP t) j).length by omega, fa.2] at k
        unfold imA at k
        have : f = 0 ∨ f = 1 ∨ f = 2 := by omega
        rcases this with rfl | rfl | rfl
        · refine v_load rfl rfl ⟨rfl, Nat.le_of_ble_eq_true rfl⟩ ?_
          refine v_load rfl rfl ⟨rfl, Nat.le_of_ble_eq_true rfl⟩ ?_
          refine v_getx rfl rfl (h44) ?_
          refine v_ige rfl (fun h => absurd h (by omega)) (fun _ => ?_)
          refine v_load rfl rfl ⟨rfl, Nat.le_of_ble_eq_true rfl⟩ ?_
          refine v_load rfl rfl ⟨rfl, Nat.le_of_ble_eq_true rfl⟩ ?_
          refine v_callr rfl ⟨Nat.le_of_ble_eq_true rfl, Nat.le_of_ble_eq_true rfl, rfl, Nat.le_of_ble_eq_true rfl, rfl⟩ ?_
          refine R_isItem hS hj32 ?_
          rw [b2i_t (show itm (nd (NT (toks t)) (j : Int)).1 = true from c)]
          refine v_ifne rfl (fun _ => ?_) (fun h => absurd h (by decide))
          refine v_load rfl rfl ⟨rfl, Nat.le_of_ble_eq_true rfl⟩ ?_
          refine v_load rfl rfl ⟨rfl, Nat.le_of_ble_eq_true rfl⟩ ?_
          refine v_ine rfl (fun h => absurd h (by omega)) (fun _ => ?_)
          refine v_load rfl rfl ⟨rfl, Nat.le_of_ble_eq_true rfl⟩ ?_
          refine v_ifne rfl (fun h => absurd h (by decide)) (fun _ => ?_)
          refine v_load rfl rfl ⟨rfl, Nat.le_of_ble_eq_true rfl⟩ ?_
          refine v_goto rfl ?_
          refine v_ret rfl rfl ?_
          exact k
        · refine v_load rfl rfl ⟨rfl, Nat.le_of_ble_eq_true rfl⟩ ?_
          refine v_load rfl rfl ⟨rfl, Nat.le_of_ble_eq_true rfl⟩ ?_
          refine v_getx rfl rfl (h44) ?_
          refine v_ige rfl (fun h => absurd h (by omega)) (fun _ => ?_)
          refine v_load rfl rfl ⟨rfl, Nat.le_of_ble_eq_true rfl⟩ ?_
          refine v_load rfl rfl ⟨rfl, Nat.le_of_ble_eq_true rfl⟩ ?_
          refine v_callr rfl ⟨Nat.le_of_ble_eq_true rfl, Nat.le_of_ble_eq_true rfl, rfl, Nat.le_of_ble_eq_true rfl, rfl⟩ ?_
          refine R_isItem hS hj32 ?_
          rw [b2i_t (show itm (nd (NT (toks t)) (j : Int)).1 = true from c)]
          refine v_ifne rfl (fun _ => ?_) (fun h => absurd h (by decide))
          refine v_load rfl rfl ⟨rfl, Nat.le_of_ble_eq_true rfl⟩ ?_
          refine v_load rfl rfl ⟨rfl, Nat.le_of_ble_eq_true rfl⟩ ?_
          refine v_ine rfl (fun h => absurd h (by omega)) (fun _ => ?_)
          refine v_load rfl rfl ⟨rfl, Nat.le_of_ble_eq_true rfl⟩ ?_
          refine v_ifne rfl (fun _ => ?_) (fun h => absurd h (by decide))
          refine v_load rfl rfl ⟨rfl, Nat.le_of_ble_eq_true rfl⟩ ?_
          refine v_push rfl ?_
          refine v_ine rfl (fun h => absurd h (by decide)) (fun _ => ?_)
          refine v_load rfl rfl ⟨rfl, Nat.le_of_ble_eq_true rfl⟩ ?_
          refine v_load rfl rfl ⟨rfl, Nat.le_of_ble_eq_true rfl⟩ ?_
          refine v_push rfl ?_
          refine v_push rfl ?_
          refine v_callr rfl ⟨Nat.le_of_ble_eq_true rfl, Nat.le_of_ble_eq_true rfl, rfl, Nat.le_of_ble_eq_true rfl, rfl⟩ ?_
          refine R_manyAr hS ⟨by omega, by omega⟩ ?_
          refine v_goto rfl ?_
          refine v_ret rfl rfl ?_
          exact qeq k (by rw [show isS2 5 5 = isS 5 from funext (fun x => by unfold isS2 isS; simp)]; rfl)
        · refine v_load rfl rfl ⟨rfl, Nat.le_of_ble_eq_true rfl⟩ ?_
          refine v_load rfl rfl ⟨rfl, Nat.le_of_ble_eq_true rfl⟩ ?_
          refine v_getx rfl rfl (h44) ?_
          refine v_ige rfl (fun h => absurd h (by omega)) (fun _ => ?_)
          refine v_load rfl rfl ⟨rfl, Nat.le_of_ble_eq_true rfl⟩ ?_
          refine v_load rfl rfl ⟨rfl, Nat.le_of_ble_eq_true rfl⟩ ?_
          refine v_callr rfl ⟨Nat.le_of_ble_eq_true rfl, Nat.le_of_ble_eq_true rfl, rfl, Nat.le_of_ble_eq_true rfl, rfl⟩ ?_
          refine R_isItem hS hj32 ?_
          rw [b2i_t (show itm (nd (NT (toks t)) (j : Int)).1 = true from c)]
          refine v_ifne rfl (fun _ => ?_) (fun h => absurd h (by decide))
          refine v_load rfl rfl ⟨rfl, Nat.le_of_ble_eq_true rfl⟩ ?_
          refine v_load rfl rfl ⟨rfl, Nat.le_of_ble_eq_true rfl⟩ ?_
          refine v_ine rfl (fun h => absurd h (by omega)) (fun _ => ?_)
          refine v_load rfl rfl ⟨rfl, Nat.le_of_ble_eq_true rfl⟩ ?_
          refine v_ifne rfl (fun _ => ?_) (fun h => absurd h (by decide))
          refine v_load rfl rfl ⟨rfl, Nat.le_of_ble_eq_true rfl⟩ ?_
          refine v_push rfl ?_
          refine v_ine rfl (fun _ => ?_) (fun h => absurd h (by decide))
          refine v_load rfl rfl ⟨rfl, Nat.le_of_ble_eq_true rfl⟩ ?_
          refine v_load rfl rfl ⟨rfl, Nat.le_of_ble_eq_true rfl⟩ ?_
          refine v_push rfl ?_
          refine v_push rfl ?_
          refine v_callr rfl ⟨Nat.le_of_ble_eq_true rfl, Nat.le_of_ble_eq_true rfl, rfl, Nat.le_of_ble_eq_true rfl, rfl⟩ ?_
          refine R_manyAr hS ⟨by omega, by omega⟩ ?_
          refine v_ret rfl rfl ?_
          exact qeq k (by rw [arG_or (p := isS 6) (q := isS 7) (r := isS2 6 7) (fun x => by unfold isS isS2; simp only [decide_eq_true_eq]; repeat' split; all_goals omega)]; rfl)
      · have e : (flt (imP t) (j + 1)).length = (flt (imP t) j).length + 1 := by rw [flt_y c]; simp
        have ihh := ih (j + 1) (by omega) (by omega) (by omega)
        rw [e, show (((flt (imP t) j).length + 1 : Nat) : Int) = ((flt (imP t) j).length : Int) + 1 by omega, show ((j + 1 : Nat) : Int) = (j : Int) + 1 by omega] at ihh
        have hfl := flt_len (imP t) j
        refine v_load rfl rfl ⟨rfl, Nat.le_of_ble_eq_true rfl⟩ ?_
        refine v_load rfl rfl ⟨rfl, Nat.le_of_ble_eq_true rfl⟩ ?_
        refine v_getx rfl rfl (h44) ?_
        refine v_ige rfl (fun h => absurd h (by omega)) (fun _ => ?_)
        refine v_load rfl rfl ⟨rfl, Nat.le_of_ble_eq_true rfl⟩ ?_
        refine v_load rfl rfl ⟨rfl, Nat.le_of_ble_eq_true rfl⟩ ?_
        refine v_callr rfl ⟨Nat.le_of_ble_eq_true rfl, Nat.le_of_ble_eq_true rfl, rfl, Nat.le_of_ble_eq_true rfl, rfl⟩ ?_
        refine R_isItem hS hj32 ?_
        rw [b2i_t (show itm (nd (NT (toks t)) (j : Int)).1 = true from c)]
        refine v_ifne rfl (fun _ => ?_) (fun h => absurd h (by decide))
        refine v_load rfl rfl ⟨rfl, Nat.le_of_ble_eq_true rfl⟩ ?_
        refine v_load rfl rfl ⟨rfl, Nat.le_of_ble_eq_true rfl⟩ ?_
        refine v_ine rfl (fun _ => ?_) (fun h => absurd h (by omega))
        refine v_load rfl rfl ⟨rfl, Nat.le_of_ble_eq_true rfl⟩ ?_
        refine v_push rfl ?_
        refine v_add rfl (by omega) ?_
        refine v_store rfl ⟨rfl, Nat.le_of_ble_eq_true rfl, Nat.le_of_ble_eq_true rfl, rfl⟩ rfl ?_
        refine v_iinc rfl rfl rfl (by omega) rfl ?_
        refine v_goto rfl ?_
        exact ihh
    · have ihh := ih (j + 1) (by omega) (by omega) (by rw [flt_n c]; exact he)
      rw [flt_n c, show ((j + 1 : Nat) : Int) = (j : Int) + 1 by omega] at ihh
      refine v_load rfl rfl ⟨rfl, Nat.le_of_ble_eq_true rfl⟩ ?_
      refine v_load rfl rfl ⟨rfl, Nat.le_of_ble_eq_true rfl⟩ ?_
      refine v_getx rfl rfl (h44) ?_
      refine v_ige rfl (fun h => absurd h (by omega)) (fun _ => ?_)
      refine v_load rfl rfl ⟨rfl, Nat.le_of_ble_eq_true rfl⟩ ?_
      refine v_load rfl rfl ⟨rfl, Nat.le_of_ble_eq_true rfl⟩ ?_
      refine v_callr rfl ⟨Nat.le_of_ble_eq_true rfl, Nat.le_of_ble_eq_true rfl, rfl, Nat.le_of_ble_eq_true rfl, rfl⟩ ?_
      refine R_isItem hS hj32 ?_
      rw [b2i_f (show ¬ itm (nd (NT (toks t)) (j : Int)).1 = true from c)]
      refine v_ifne rfl (fun h => absurd h (by decide)) (fun _ => ?_)
      refine v_goto rfl ?_
      refine v_iinc rfl rfl rfl (by omega) rfl ?_
      refine v_goto rfl ?_
      exact ihh
theorem R_item {m f : Int} (hC : RS s M) (k : Q (some (0, itemQ s m f)) M) : v_call L (d + 10) 309 [(2, 77), (0, m), (0, f)] M Q := by
  have hS := hC.1
  unfold itemQ at k
  refine v_in ?_
  by_cases c : -1 ≤ m ∧ (m = -1 ∨ (0 ≤ f ∧ f ≤ 2))
  · rw [if_pos c] at k
    have go := R_item_loop (L := L) (d := d + 6) c.1 c.2 hS k _ 0 rfl (Nat.zero_le _) (by show m = -1 ∨ ((0 : Nat) : Int) ≤ m; omega)
    by_cases c1 : m = -1
    · refine v_load rfl rfl ⟨rfl, Nat.le_of_ble_eq_true rfl⟩ ?_
      refine v_push rfl ?_
      refine v_ilt rfl (fun h => absurd h (by omega)) (fun _ => ?_)
      refine v_load rfl rfl ⟨rfl, Nat.le_of_ble_eq_true rfl⟩ ?_
      refine v_push rfl ?_
      refine v_ile rfl (fun _ => ?_) (fun h => absurd h (by omega))
      refine v_push rfl ?_
      refine v_store rfl ⟨rfl, Nat.le_of_ble_eq_true rfl, Nat.le_of_ble_eq_true rfl, rfl⟩ rfl ?_
      refine v_push rfl ?_
      refine v_store rfl ⟨rfl, Nat.le_of_ble_eq_true rfl, Nat.le_of_ble_eq_true rfl, rfl⟩ rfl ?_
      exact go
    · refine v_load rfl rfl ⟨rfl, Nat.le_of_ble_eq_true rfl⟩ ?_
      refine v_push rfl ?_
      refine v_ilt rfl (fun h => absurd h (by omega)) (fun _ => ?_)
      refine v_load rfl rfl ⟨rfl, Nat.le_of_ble_eq_true rfl⟩ ?_
      refine v_push rfl ?_
      refine v_ile rfl (fun h => absurd h (by omega)) (fun _ => ?_)
      refine v_load rfl rfl ⟨rfl, Nat.le_of_ble_eq_true rfl⟩ ?_
      refine v_push rfl ?_
      refine v_push rfl ?_
      refine v_callr rfl ⟨Nat.le_of_ble_eq_true rfl, Nat.le_of_ble_eq_true rfl, rfl, Nat.le_of_ble_eq_true rfl, rfl⟩ ?_
      refine R_in ?_
      rw [b2i_t (decide_eq_true (show 0 ≤ f ∧ f ≤ 2 by omega))]
      refine v_ifne rfl (fun _ => ?_) (fun h => absurd h (by decide))
      refine v_push rfl ?_
      refine v_store rfl ⟨rfl, Nat.le_of_ble_eq_true rfl, Nat.le_of_ble_eq_true rfl, rfl⟩ rfl ?_
      refine v_push rfl ?_
      refine v_store rfl ⟨rfl, Nat.le_of_ble_eq_true rfl, Nat.le_of_ble_eq_true rfl, rfl⟩ rfl ?_
      exact go
  · rw [if_neg c] at k
    by_cases c1 : m < -1
    · refine v_load rfl rfl ⟨rfl, Nat.le_of_ble_eq_true rfl⟩ ?_
      refine v_push rfl ?_
      refine v_ilt rfl (fun _ => ?_) (fun h => absurd h (by omega))
      refine v_push rfl ?_
      refine v_ret rfl rfl ?_
      exact k
    · refine v_load rfl rfl ⟨rfl, Nat.le_of_ble_eq_true rfl⟩ ?_
      refine v_push rfl ?_
      refine v_ilt rfl (fun h => absurd h (by omega)) (fun _ => ?_)
      refine v_load rfl rfl ⟨rfl, Nat.le_of_ble_eq_true rfl⟩ ?_
      refine v_push rfl ?_
      refine v_ile rfl (fun h => absurd h (by omega)) (fun _ => ?_)
      refine v_load rfl rfl ⟨rfl, Nat.le_of_ble_eq_true rfl⟩ ?_
      refine v_push rfl ?_
      refine v_push rfl ?_
      refine v_callr rfl ⟨Nat.le_of_ble_eq_true rfl, Nat.le_of_ble_eq_true rfl, rfl, Nat.le_of_ble_eq_true rfl, rfl⟩ ?_
      refine R_in ?_
      rw [b2i_f (by simp only [decide_eq_true_eq]; omega)]
      refine v_ifne rfl (fun h => absurd h (by decide)) (fun _ => ?_)
      refine v_push rfl ?_
      refine v_ret rfl rfl ?_
      exact k
end QC
