/-! QUESTIONS: common, far, cover -/
section QD
variable {L d n : Nat} {M : zM} {Q : Option zV → zM → Prop} {s : zA} {t : List Int}
/-- the innermost around both -/
noncomputable def cmF (t : List Int) (o : Int) : Nat → Int → Int
  | 0, x => x
  | f + 1, x => if x ≤ o ∧ o < x + (nd (NT (toks t)) x).2.2.2.1 then x else cmF t o f (nd (NT (toks t)) x).2.1
theorem cm_out {o x : Int} (ho : 0 ≤ o ∧ o < ((NT (toks t)).length : Int)) (h : ¬ (x ≤ o ∧ o < x + (nd (NT (toks t)) x).2.2.2.1)) : x ≠ 0 := by
  intro z
  subst z
  have := root_siz (t := t)
  omega
theorem cm_rng {o : Int} (ho : 0 ≤ o ∧ o < ((NT (toks t)).length : Int)) : ∀ (f : Nat) (x : Int), 0 ≤ x → x < ((NT (toks t)).length : Int) → 0 ≤ cmF t o f x ∧ cmF t o f x < ((NT (toks t)).length : Int)
  | 0, x, h0, h1 => ⟨h0, h1⟩
  | f + 1, x, h0, h1 => by
    unfold cmF
    split
    · exact ⟨h0, h1⟩
    · next c =>
      have z := cm_out ho c
      have u := up_in (t := t) (y := x) ⟨by omega, h1⟩
      exact cm_rng ho f _ u.1 (by omega)
theorem cm_up {o : Int} (ho : 0 < o ∧ o < ((NT (toks t)).length : Int)) : ∀ (f : Nat) (x : Int), 0 ≤ x → x < o → cmF t o f x = cmF t (nd (NT (toks t)) o).2.1 f x
  | 0, x, h0, h1 => rfl
  | f + 1, x, h0, h1 => by
    have u := up_in (t := t) (y := o) ho
    have hx : 0 ≤ x ∧ x < ((NT (toks t)).length : Int) := ⟨h0, by omega⟩
    have e : (x ≤ o ∧ o < x + (nd (NT (toks t)) x).2.2.2.1) ↔ (x ≤ (nd (NT (toks t)) o).2.1 ∧ (nd (NT (toks t)) o).2.1 < x + (nd (NT (toks t)) x).2.2.2.1) := by
      constructor
      · intro z
        have := nest hx ⟨h1, z.2⟩
        omega
      · intro z
        by_cases c : x = (nd (NT (toks t)) o).2.1
        · rw [c]; omega
        · have := nest hx (y := (nd (NT (toks t)) o).2.1) ⟨by omega, z.2⟩
          omega
    unfold cmF
    by_cases c : x ≤ o ∧ o < x + (nd (NT (toks t)) x).2.2.2.1
    · rw [if_pos c, if_pos (e.mp c)]
    · rw [if_neg c, if_neg (fun z => c (e.mpr z))]
      have z := cm_out (t := t) ⟨by omega, ho.2⟩ c
      have ux := up_in (t := t) (y := x) ⟨by omega, hx.2⟩
      exact cm_up ho f _ ux.1 (by omega)
theorem S_shared_loop {a b : Int} (hN : RN (NT (toks t)) M) : ∀ (m : Nat) (x y j : Int) (f : Nat), x + y ≤ (m : Int) → 0 ≤ x → x < ((NT (toks t)).length : Int) → 0 ≤ y → y < ((NT (toks t)).length : Int) → x < (f : Int) → 0 ≤ j → j + (m : Int) ≤ 2430 → Q (some (0, cmF t y f x)) M → v_wp L (d + 2) 103 8 [(2, 42), (0, a), (0, b), (0, x), (0, y), (0, j)] [] M Q := by
  intro m
  have fin : ∀ (x y j : Int) (f : Nat), x = y → 0 ≤ x → x < ((NT (toks t)).length : Int) → x < (f : Int) → Q (some (0, cmF t y f x)) M → v_wp L (d + 2) 103 8 [(2, 42), (0, a), (0, b), (0, x), (0, y), (0, j)] [] M Q := by
    intro x y j f e h0 h1 h2 k
    subst e
    have e : cmF t x f x = x := by
      cases f with
      | zero => rfl
      | succ f =>
        have := NT_siz (t := t) ⟨h0, h1⟩
        unfold cmF
        rw [if_pos ⟨Int.le_refl _, by omega⟩]
    rw [e] at k
    refine v_load rfl rfl ⟨rfl, Nat.le_of_ble_eq_true rfl⟩ ?_
    refine v_push rfl ?_
    refine v_ige rfl (fun c1 => ?_) (fun c1 => ?_)
    · refine v_load rfl rfl ⟨rfl, Nat.le_of_ble_eq_true rfl⟩ ?_
      refine v_ret rfl rfl ?_
      exact k
    · refine v_load rfl rfl ⟨rfl, Nat.le_of_ble_eq_true rfl⟩ ?_
      refine v_load rfl rfl ⟨rfl, Nat.le_of_ble_eq_true rfl⟩ ?_
      refine v_ieq rfl (fun _ => ?_) (fun h => absurd h (by omega))
      refine v_load rfl rfl ⟨rfl, Nat.le_of_ble_eq_true rfl⟩ ?_
      refine v_ret rfl rfl ?_
      exact k
  induction m with
  | zero =>
    intro x y j f h1 h2 h3 h4 h5 h6 h7 h8 k
    exact fin x y j f (by omega) h2 h3 h6 k
  | succ m ih =>
    intro x y j f h1 h2 h3 h4 h5 h6 h7 h8 k
    by_cases c : x = y
    · exact fin x y j f c h2 h3 h6 k
    · by_cases c1 : y < x
      · have u := up_in (t := t) (y := x) ⟨by omega, h3⟩
        cases f with
        | zero => omega
        | succ f =>
          unfold cmF at k
          rw [if_neg (by omega)] at k
          refine v_load rfl rfl ⟨rfl, Nat.le_of_ble_eq_true rfl⟩ ?_
          refine v_push rfl ?_
          refine v_ige rfl (fun h => absurd h (by omega)) (fun _ => ?_)
          refine v_load rfl rfl ⟨rfl, Nat.le_of_ble_eq_true rfl⟩ ?_
          refine v_load rfl rfl ⟨rfl, Nat.le_of_ble_eq_true rfl⟩ ?_
          refine v_ieq rfl (fun h => absurd h (by omega)) (fun _ => ?_)
          refine v_load rfl rfl ⟨rfl, Nat.le_of_ble_eq_true rfl⟩ ?_
          refine v_load rfl rfl ⟨rfl, Nat.le_of_ble_eq_true rfl⟩ ?_
          refine v_ile rfl (fun h => absurd h (by omega)) (fun _ => ?_)
          refine v_load rfl rfl ⟨rfl, Nat.le_of_ble_eq_true rfl⟩ ?_
          refine v_load rfl rfl ⟨rfl, Nat.le_of_ble_eq_true rfl⟩ ?_
          refine v_callr rfl ⟨Nat.le_of_ble_eq_true rfl, Nat.le_of_ble_eq_true rfl, rfl, Nat.le_of_ble_eq_true rfl, rfl⟩ ?_
          refine S_ndUp hN ?_
          refine v_store rfl ⟨rfl, Nat.le_of_ble_eq_true rfl, Nat.le_of_ble_eq_true rfl, rfl⟩ rfl ?_
          refine v_goto rfl ?_
          refine v_iinc rfl rfl rfl (by omega) rfl ?_
          refine v_goto rfl ?_
          exact ih _ _ _ f (by omega) u.1 (by omega) h4 h5 (by omega) (by omega) (by omega) k
      · have u := up_in (t := t) (y := y) ⟨by omega, h5⟩
        rw [cm_up ⟨by omega, h5⟩ f x h2 (by omega)] at k
        refine v_load rfl rfl ⟨rfl, Nat.le_of_ble_eq_true rfl⟩ ?_
        refine v_push rfl ?_
        refine v_ige rfl (fun h => absurd h (by omega)) (fun _ => ?_)
        refine v_load rfl rfl ⟨rfl, Nat.le_of_ble_eq_true rfl⟩ ?_
        refine v_load rfl rfl ⟨rfl, Nat.le_of_ble_eq_true rfl⟩ ?_
        refine v_ieq rfl (fun h => absurd h (by omega)) (fun _ => ?_)
        refine v_load rfl rfl ⟨rfl, Nat.le_of_ble_eq_true rfl⟩ ?_
        refine v_load rfl rfl ⟨rfl, Nat.le_of_ble_eq_true rfl⟩ ?_
        refine v_ile rfl (fun _ => ?_) (fun h => absurd h (by omega))
        refine v_load rfl rfl ⟨rfl, Nat.le_of_ble_eq_true rfl⟩ ?_
        refine v_load rfl rfl ⟨rfl, Nat.le_of_ble_eq_true rfl⟩ ?_
        refine v_callr rfl ⟨Nat.le_of_ble_eq_true rfl, Nat.le_of_ble_eq_true rfl, rfl, Nat.le_of_ble_eq_true rfl, rfl⟩ ?_
        refine S_ndUp hN ?_
        refine v_store rfl ⟨rfl, Nat.le_of_ble_eq_true rfl, Nat.le_of_ble_eq_true rfl, rfl⟩ rfl ?_
        refine v_iinc rfl rfl rfl (by omega) rfl ?_
        refine v_goto rfl ?_
        exact ih _ _ _ f (by omega) h2 h3 u.1 (by omega) h6 (by omega) (by omega) k
theorem S_sharedBy {a b : Int} (hN : RN (NT (toks t)) M) (ha : 0 ≤ a ∧ a < ((NT (toks t)).length : Int)) (hb : 0 ≤ b ∧ b < ((NT (toks t)).length : Int)) (k : Q (some (0, cmF t b 1217 a)) M) : v_call L (d + 2) 103 [(2, 42), (0, a), (0, b)] M Q := by
  have hl : (NT (toks t)).length ≤ 1216 := hN.2.1
  refine v_in ?_
  refine v_load rfl rfl ⟨rfl, Nat.le_of_ble_eq_true rfl⟩ ?_
  refine v_store rfl ⟨rfl, Nat.le_of_ble_eq_true rfl, Nat.le_of_ble_eq_true rfl, rfl⟩ rfl ?_
  refine v_load rfl rfl ⟨rfl, Nat.le_of_ble_eq_true rfl⟩ ?_
  refine v_store rfl ⟨rfl, Nat.le_of_ble_eq_true rfl, Nat.le_of_ble_eq_true rfl, rfl⟩ rfl ?_
  refine v_push rfl ?_
  refine v_store rfl ⟨rfl, Nat.le_of_ble_eq_true rfl, Nat.le_of_ble_eq_true rfl, rfl⟩ rfl ?_
  exact S_shared_loop hN (a + b).toNat _ _ _ 1217 (by omega) ha.1 ha.2 hb.1 hb.2 (by omega) (by omega) (by omega) k
theorem R_common_loop {a b : Int} (hS : RSt t M) (hb : 0 ≤ b ∧ b < ((NT (toks t)).length : Int)) : ∀ (f : Nat) (x : Int), 0 ≤ x → x < ((NT (toks t)).length : Int) → x < (f : Int) → Q (some (0, cmF t b f x)) M → v_wp L (d + 2) 274 2 [(2, 77), (0, a), (0, b), (0, x)] [] M Q := by
  intro f
  have hl := NT_1216 hS
  induction f with
  | zero => intro x h0 h1 h2 k; omega
  | succ f ih =>
    intro x h0 h1 h2 k
    have g2 := (TM_nd hS (i := x) ⟨h0, h1⟩).2.1
    unfold cmF at k
    by_cases c : x ≤ b ∧ b < x + (nd (NT (toks t)) x).2.2.2.1
    · rw [if_pos c] at k
      refine v_load rfl rfl ⟨rfl, Nat.le_of_ble_eq_true rfl⟩ ?_
      refine v_load rfl rfl ⟨rfl, Nat.le_of_ble_eq_true rfl⟩ ?_
      refine v_load rfl rfl ⟨rfl, Nat.le_of_ble_eq_true rfl⟩ ?_
      refine v_callr rfl ⟨Nat.le_of_ble_eq_true rfl, Nat.le_of_ble_eq_true rfl, rfl, Nat.le_of_ble_eq_true rfl, rfl⟩ ?_
      refine R_isInN hS ⟨h0, h1⟩ ?_
      rw [if_pos c]
      refine v_ifne rfl (fun _ => ?_) (fun h => absurd h (by decide))
      refine v_load rfl rfl ⟨rfl, Nat.le_of_ble_eq_true rfl⟩ ?_
      refine v_ret rfl rfl ?_
      exact k
    · rw [if_neg c] at k
      have z := cm_out (t := t) hb c
      have u := up_in (t := t) (y := x) ⟨by omega, h1⟩
      refine v_load rfl rfl ⟨rfl, Nat.le_of_ble_eq_true rfl⟩ ?_
      refine v_load rfl rfl ⟨rfl, Nat.le_of_ble_eq_true rfl⟩ ?_
      refine v_load rfl rfl ⟨rfl, Nat.le_of_ble_eq_true rfl⟩ ?_
      refine v_callr rfl ⟨Nat.le_of_ble_eq_true rfl, Nat.le_of_ble_eq_true rfl, rfl, Nat.le_of_ble_eq_true rfl, rfl⟩ ?_
      refine R_isInN hS ⟨h0, h1⟩ ?_
      rw [if_neg c]
      refine v_ifne rfl (fun h => absurd h (by decide)) (fun _ => ?_)
      refine v_load rfl rfl ⟨rfl, Nat.le_of_ble_eq_true rfl⟩ ?_
      refine v_getp rfl rfl rfl ?_
      refine v_load rfl rfl ⟨rfl, Nat.le_of_ble_eq_true rfl⟩ ?_
      refine v_ald9 rfl rfl ⟨by omega, by show _ < (1600 : Int); omega⟩ ?_
      rw [g2]
      refine v_store rfl ⟨rfl, Nat.le_of_ble_eq_true rfl, Nat.le_of_ble_eq_true rfl, rfl⟩ rfl ?_
      refine v_goto rfl ?_
      exact ih _ u.1 (by omega) (by omega) k
theorem R_commonOf {a b : Int} (hS : RSt t M) (ha : 0 ≤ a ∧ a < ((NT (toks t)).length : Int)) (hb : 0 ≤ b ∧ b < ((NT (toks t)).length : Int)) (k : Q (some (0, cmF t b 1217 a)) M) : v_call L (d + 2) 274 [(2, 77), (0, a), (0, b)] M Q := by
  have hl := NT_1216 hS
  refine v_in ?_
  refine v_load rfl rfl ⟨rfl, Nat.le_of_ble_eq_true rfl⟩ ?_
  refine v_store rfl ⟨rfl, Nat.le_of_ble_eq_true rfl, Nat.le_of_ble_eq_true rfl, rfl⟩ rfl ?_
  exact R_common_loop hS hb 1217 _ ha.1 ha.2 (by omega) k
noncomputable def commonQ (s : zA) (a b : Int) : Int := if (0 ≤ a ∧ a < ((NT (toks s.1.1)).length : Int)) ∧ (0 ≤ b ∧ b < ((NT (toks s.1.1)).length : Int)) then cmF s.1.1 b 1217 a else -1
noncomputable def farQ (s : zA) (a b : Int) : Int := if (0 ≤ a ∧ a < ((NT (toks s.1.1)).length : Int)) ∧ (0 ≤ b ∧ b < ((NT (toks s.1.1)).length : Int)) then (nd (NT (toks s.1.1)) a).2.2.2.2.1 + (nd (NT (toks s.1.1)) b).2.2.2.2.1 - 2 * (nd (NT (toks s.1.1)) (cmF s.1.1 b 1217 a)).2.2.2.2.1 else -1
theorem S_common {a b : Int} (hC : CS s M) (k : Q (some (0, commonQ s a b)) M) : v_call L (d + 10) 148 [(2, 1), (0, a), (0, b)] M Q := by
  have h6 := hC.2.2.2.2.2.1
  unfold commonQ at k
  refine v_in ?_
  by_cases c : (0 ≤ a ∧ a < ((NT (toks s.1.1)).length : Int)) ∧ (0 ≤ b ∧ b < ((NT (toks s.1.1)).length : Int))
  · rw [if_pos c] at k
    refine v_load rfl rfl ⟨rfl, Nat.le_of_ble_eq_true rfl⟩ ?_
    refine v_getp rfl rfl rfl ?_
    refine v_load rfl rfl ⟨rfl, Nat.le_of_ble_eq_true rfl⟩ ?_
    refine v_callr rfl ⟨Nat.le_of_ble_eq_true rfl, Nat.le_of_ble_eq_true rfl, rfl, Nat.le_of_ble_eq_true rfl, rfl⟩ ?_
    refine S_ndHas h6.1 ?_
    rw [if_pos c.1]
    refine v_ifeq rfl (fun h => absurd h (by decide)) (fun _ => ?_)
    refine v_load rfl rfl ⟨rfl, Nat.le_of_ble_eq_true rfl⟩ ?_
    refine v_getp rfl rfl rfl ?_
    refine v_load rfl rfl ⟨rfl, Nat.le_of_ble_eq_true rfl⟩ ?_
    refine v_callr rfl ⟨Nat.le_of_ble_eq_true rfl, Nat.le_of_ble_eq_true rfl, rfl, Nat.le_of_ble_eq_true rfl, rfl⟩ ?_
    refine S_ndHas h6.1 ?_
    rw [if_pos c.2]
    refine v_ifne rfl (fun _ => ?_) (fun h => absurd h (by decide))
    refine v_load rfl rfl ⟨rfl, Nat.le_of_ble_eq_true rfl⟩ ?_
    refine v_getp rfl rfl rfl ?_
    refine v_load rfl rfl ⟨rfl, Nat.le_of_ble_eq_true rfl⟩ ?_
    refine v_load rfl rfl ⟨rfl, Nat.le_of_ble_eq_true rfl⟩ ?_
    refine v_callr rfl ⟨Nat.le_of_ble_eq_true rfl, Nat.le_of_ble_eq_true rfl, rfl, Nat.le_of_ble_eq_true rfl, rfl⟩ ?_
    refine S_sharedBy h6.1 c.1 c.2 ?_
    refine v_ret rfl rfl ?_
    exact k
  · rw [if_neg c] at k
    refine v_load rfl rfl ⟨rfl, Nat.le_of_ble_eq_true rfl⟩ ?_
    refine v_getp rfl rfl rfl ?_
    refine v_load rfl rfl ⟨rfl, Nat.le_of_ble_eq_true rfl⟩ ?_
    refine v_callr rfl ⟨Nat.le_of_ble_eq_true rfl, Nat.le_of_ble_eq_true rfl, rfl, Nat.le_of_ble_eq_true rfl, rfl⟩ ?_
    refine S_ndHas h6.1 ?_
    refine v_ifeq rfl (fun c1 => ?_) (fun c1 => ?_)
    · refine v_push rfl ?_
      refine v_ret rfl rfl ?_
      first | exact k | (exfalso; omega)
    · refine v_load rfl rfl ⟨rfl, Nat.le_of_ble_eq_true rfl⟩ ?_
      refine v_getp rfl rfl rfl ?_
      refine v_load rfl rfl ⟨rfl, Nat.le_of_ble_eq_true rfl⟩ ?_
      refine v_callr rfl ⟨Nat.le_of_ble_eq_true rfl, Nat.le_of_ble_eq_true rfl, rfl, Nat.le_of_ble_eq_true rfl, rfl⟩ ?_
      refine S_ndHas h6.1 ?_
      refine v_ifne rfl (fun c2 => ?_) (fun c2 => ?_)
      · first | exact k | (exfalso; omega)
      · refine v_push rfl ?_
        refine v_ret rfl rfl ?_
        first | exact k | (exfalso; omega)
theorem S_far {a b : Int} (hC : CS s M) (k : Q (some (0, farQ s a b)) M) : v_call L (d + 10) 172 [(2, 1), (0, a), (0, b)] M Q := by
  have h6 := hC.2.2.2.2.2.1
  have hl : (NT (toks s.1.1)).length ≤ 1216 := h6.1.2.1
  unfold farQ at k
  refine v_in ?_
  by_cases c : (0 ≤ a ∧ a < ((NT (toks s.1.1)).length : Int)) ∧ (0 ≤ b ∧ b < ((NT (toks s.1.1)).length : Int))
  · rw [if_pos c] at k
    have r := cm_rng c.2 1217 a c.1.1 c.1.2
    have d1 := dep_rng (t := s.1.1) 1217 a (by omega) c.1.1 c.1.2
    have d2 := dep_rng (t := s.1.1) 1217 b (by omega) c.2.1 c.2.2
    have d3 := dep_rng (t := s.1.1) 1217 _ (by omega) r.1 r.2
    refine v_load rfl rfl ⟨rfl, Nat.le_of_ble_eq_true rfl⟩ ?_
    refine v_getp rfl rfl rfl ?_
    refine v_load rfl rfl ⟨rfl, Nat.le_of_ble_eq_true rfl⟩ ?_
    refine v_callr rfl ⟨Nat.le_of_ble_eq_true rfl, Nat.le_of_ble_eq_true rfl, rfl, Nat.le_of_ble_eq_true rfl, rfl⟩ ?_
    refine S_ndHas h6.1 ?_
    rw [if_pos c.1]
    refine v_ifeq rfl (fun h => absurd h (by decide)) (fun _ => ?_)
    refine v_load rfl rfl ⟨rfl, Nat.le_of_ble_eq_true rfl⟩ ?_
    refine v_getp rfl rfl rfl ?_
    refine v_load rfl rfl ⟨rfl, Nat.le_of_ble_eq_true rfl⟩ ?_
    refine v_callr rfl ⟨Nat.le_of_ble_eq_true rfl, Nat.le_of_ble_eq_true rfl, rfl, Nat.le_of_ble_eq_true rfl, rfl⟩ ?_
    refine S_ndHas h6.1 ?_
    rw [if_pos c.2]
    refine v_ifne rfl (fun _ => ?_) (fun h => absurd h (by decide))
    refine v_load rfl rfl ⟨rfl, Nat.le_of_ble_eq_true rfl⟩ ?_
    refine v_getp rfl rfl rfl ?_
    refine v_load rfl rfl ⟨rfl, Nat.le_of_ble_eq_true rfl⟩ ?_
    refine v_load rfl rfl ⟨rfl, Nat.le_of_ble_eq_true rfl⟩ ?_
    refine v_callr rfl ⟨Nat.le_of_ble_eq_true rfl, Nat.le_of_ble_eq_true rfl, rfl, Nat.le_of_ble_eq_true rfl, rfl⟩ ?_
    refine S_sharedBy h6.1 c.1 c.2 ?_
    refine v_store rfl ⟨rfl, Nat.le_of_ble_eq_true rfl, Nat.le_of_ble_eq_true rfl, rfl⟩ rfl ?_
    refine v_load rfl rfl ⟨rfl, Nat.le_of_ble_eq_true rfl⟩ ?_
    refine v_getp rfl rfl rfl ?_
    refine v_load rfl rfl ⟨rfl, Nat.le_of_ble_eq_true rfl⟩ ?_
    refine v_callr rfl ⟨Nat.le_of_ble_eq_true rfl, Nat.le_of_ble_eq_true rfl, rfl, Nat.le_of_ble_eq_true rfl, rfl⟩ ?_
    refine S_ndDepth h6.1 ?_
    refine v_load rfl rfl ⟨rfl, Nat.le_of_ble_eq_true rfl⟩ ?_
    refine v_getp rfl rfl rfl ?_
    refine v_load rfl rfl ⟨rfl, Nat.le_of_ble_eq_true rfl⟩ ?_
    refine v_callr rfl ⟨Nat.le_of_ble_eq_true rfl, Nat.le_of_ble_eq_true rfl, rfl, Nat.le_of_ble_eq_true rfl, rfl⟩ ?_
    refine S_ndDepth h6.1 ?_
    refine v_add rfl (by omega) ?_
    refine v_push rfl ?_
    refine v_load rfl rfl ⟨rfl, Nat.le_of_ble_eq_true rfl⟩ ?_
    refine v_getp rfl rfl rfl ?_
    refine v_load rfl rfl ⟨rfl, Nat.le_of_ble_eq_true rfl⟩ ?_
    refine v_callr rfl ⟨Nat.le_of_ble_eq_true rfl, Nat.le_of_ble_eq_true rfl, rfl, Nat.le_of_ble_eq_true rfl, rfl⟩ ?_
    refine S_ndDepth h6.1 ?_
    refine v_mul rfl (by omega) ?_
    refine v_sub rfl (by omega) ?_
    refine v_ret rfl rfl ?_
    exact k
  · rw [if_neg c] at k
    refine v_load rfl rfl ⟨rfl, Nat.le_of_ble_eq_true rfl⟩ ?_
    refine v_getp rfl rfl rfl ?_
    refine v_load rfl rfl ⟨rfl, Nat.le_of_ble_eq_true rfl⟩ ?_
    refine v_callr rfl ⟨Nat.le_of_ble_eq_true rfl, Nat.le_of_ble_eq_true rfl, rfl, Nat.le_of_ble_eq_true rfl, rfl⟩ ?_
    refine S_ndHas h6.1 ?_
    refine v_ifeq rfl (fun c3 => ?_) (fun c3 => ?_)
    · refine v_push rfl ?_
      refine v_ret rfl rfl ?_
      first | exact k | (exfalso; omega)
    · refine v_load rfl rfl ⟨rfl, Nat.le_of_ble_eq_true rfl⟩ ?_
      refine v_getp rfl rfl rfl ?_
      refine v_load rfl rfl ⟨rfl, Nat.le_of_ble_eq_true rfl⟩ ?_
      refine v_callr rfl ⟨Nat.le_of_ble_eq_true rfl, Nat.le_of_ble_eq_true rfl, rfl, Nat.le_of_ble_eq_true rfl, rfl⟩ ?_
      refine S_ndHas h6.1 ?_
      refine v_ifne rfl (fun c4 => ?_) (fun c4 => ?_)
      · first | exact k | (exfalso; omega)
      · refine v_push rfl ?_
        refine v_ret rfl rfl ?_
        first | exact k | (exfalso; omega)
theorem R_common {a b : Int} (hC : RS s M) (ha : z_i32 a) (hb : z_i32 b) (k : Q (some (0, commonQ s a b)) M) : v_call L (d + 10) 275 [(2, 77), (0, a), (0, b)] M Q := by
  have hS := hC.1
  unfold commonQ at k
  refine v_in ?_
  by_cases c1 : 0 ≤ a ∧ a ≤ ((NT (toks s.1.1)).length : Int) - 1
  · by_cases c2 : 0 ≤ b ∧ b ≤ ((NT (toks s.1.1)).length : Int) - 1
    · rw [if_pos ⟨by omega, by omega⟩] at k
      refine v_load rfl rfl ⟨rfl, Nat.le_of_ble_eq_true rfl⟩ ?_
      refine v_load rfl rfl ⟨rfl, Nat.le_of_ble_eq_true rfl⟩ ?_
      refine v_callr rfl ⟨Nat.le_of_ble_eq_true rfl, Nat.le_of_ble_eq_true rfl, rfl, Nat.le_of_ble_eq_true rfl, rfl⟩ ?_
      refine R_isNode hS ha ?_
      rw [b2i_t (decide_eq_true c1)]
      refine v_ifeq rfl (fun h => absurd h (by decide)) (fun _ => ?_)
      refine v_load rfl rfl ⟨rfl, Nat.le_of_ble_eq_true rfl⟩ ?_
      refine v_load rfl rfl ⟨rfl, Nat.le_of_ble_eq_true rfl⟩ ?_
      refine v_callr rfl ⟨Nat.le_of_ble_eq_true rfl, Nat.le_of_ble_eq_true rfl, rfl, Nat.le_of_ble_eq_true rfl, rfl⟩ ?_
      refine R_isNode hS hb ?_
      rw [b2i_t (decide_eq_true c2)]
      refine v_ifeq rfl (fun h => absurd h (by decide)) (fun _ => ?_)
      refine v_load rfl rfl ⟨rfl, Nat.le_of_ble_eq_true rfl⟩ ?_
      refine v_load rfl rfl ⟨rfl, Nat.le_of_ble_eq_true rfl⟩ ?_
      refine v_load rfl rfl ⟨rfl, Nat.le_of_ble_eq_true rfl⟩ ?_
      refine v_callr rfl ⟨Nat.le_of_ble_eq_true rfl, Nat.le_of_ble_eq_true rfl, rfl, Nat.le_of_ble_eq_true rfl, rfl⟩ ?_
      refine R_commonOf hS ⟨by omega, by omega⟩ ⟨by omega, by omega⟩ ?_
      refine v_goto rfl ?_
      refine v_ret rfl rfl ?_
      exact k
    · rw [if_neg (by omega)] at k
      refine v_load rfl rfl ⟨rfl, Nat.le_of_ble_eq_true rfl⟩ ?_
      refine v_load rfl rfl ⟨rfl, Nat.le_of_ble_eq_true rfl⟩ ?_
      refine v_callr rfl ⟨Nat.le_of_ble_eq_true rfl, Nat.le_of_ble_eq_true rfl, rfl, Nat.le_of_ble_eq_true rfl, rfl⟩ ?_
      refine R_isNode hS ha ?_
      rw [b2i_t (decide_eq_true c1)]
      refine v_ifeq rfl (fun h => absurd h (by decide)) (fun _ => ?_)
      refine v_load rfl rfl ⟨rfl, Nat.le_of_ble_eq_true rfl⟩ ?_
      refine v_load rfl rfl ⟨rfl, Nat.le_of_ble_eq_true rfl⟩ ?_
      refine v_callr rfl ⟨Nat.le_of_ble_eq_true rfl, Nat.le_of_ble_eq_true rfl, rfl, Nat.le_of_ble_eq_true rfl, rfl⟩ ?_
      refine R_isNode hS hb ?_
      rw [b2i_f (by simpa using c2)]
      refine v_ifeq rfl (fun _ => ?_) (fun h => absurd h (by decide))
      refine v_push rfl ?_
      refine v_ret rfl rfl ?_
      exact k
  · rw [if_neg (by omega)] at k
    refine v_load rfl rfl ⟨rfl, Nat.le_of_ble_eq_true rfl⟩ ?_
    refine v_load rfl rfl ⟨rfl, Nat.le_of_ble_eq_true rfl⟩ ?_
    refine v_callr rfl ⟨Nat.le_of_ble_eq_true rfl, Nat.le_of_ble_eq_true rfl, rfl, Nat.le_of_ble_eq_true rfl, rfl⟩ ?_
    refine R_isNode hS ha ?_
    rw [b2i_f (by simpa using c1)]
    refine v_ifeq rfl (fun _ => ?_) (fun h => absurd h (by decide))
    refine v_push rfl ?_
    refine v_ret rfl rfl ?_
    exact k
theorem R_far {a b : Int} (hC : RS s M) (ha : z_i32 a) (hb : z_i32 b) (k : Q (some (0, farQ s a b)) M) : v_call L (d + 10) 310 [(2, 77), (0, a), (0, b)] M Q := by
  have hS := hC.1
  have hl := NT_1216 hS
  unfold farQ at k
  refine v_in ?_
  by_cases c1 : 0 ≤ a ∧ a ≤ ((NT (toks s.1.1)).length : Int) - 1
  · by_cases c2 : 0 ≤ b ∧ b ≤ ((NT (toks s.1.1)).length : Int) - 1
    · have c3 : 0 ≤ a ∧ a < ((NT (toks s.1.1)).length : Int) := by omega
      have c4 : 0 ≤ b ∧ b < ((NT (toks s.1.1)).length : Int) := by omega
      rw [if_pos ⟨c3, c4⟩] at k
      have r := cm_rng c4 1217 a c3.1 c3.2
      have d1 := dep_rng (t := s.1.1) 1217 a (by omega) c3.1 c3.2
      have d2 := dep_rng (t := s.1.1) 1217 b (by omega) c4.1 c4.2
      have d3 := dep_rng (t := s.1.1) 1217 _ (by omega) r.1 r.2
      have g1 := (TM_nd hS c3).2.2.2.2.1
      have g2 := (TM_nd hS c4).2.2.2.2.1
      have g3 := (TM_nd hS r).2.2.2.2.1
      refine v_load rfl rfl ⟨rfl, Nat.le_of_ble_eq_true rfl⟩ ?_
      refine v_load rfl rfl ⟨rfl, Nat.le_of_ble_eq_true rfl⟩ ?_
      refine v_callr rfl ⟨Nat.le_of_ble_eq_true rfl, Nat.le_of_ble_eq_true rfl, rfl, Nat.le_of_ble_eq_true rfl, rfl⟩ ?_
      refine R_isNode hS ha ?_
      rw [b2i_t (decide_eq_true c1)]
      refine v_ifeq rfl (fun h => absurd h (by decide)) (fun _ => ?_)
      refine v_load rfl rfl ⟨rfl, Nat.le_of_ble_eq_true rfl⟩ ?_
      refine v_load rfl rfl ⟨rfl, Nat.le_of_ble_eq_true rfl⟩ ?_
      refine v_callr rfl ⟨Nat.le_of_ble_eq_true rfl, Nat.le_of_ble_eq_true rfl, rfl, Nat.le_of_ble_eq_true rfl, rfl⟩ ?_
      refine R_isNode hS hb ?_
      rw [b2i_t (decide_eq_true c2)]
      refine v_ifne rfl (fun _ => ?_) (fun h => absurd h (by decide))
      refine v_load rfl rfl ⟨rfl, Nat.le_of_ble_eq_true rfl⟩ ?_
      refine v_getp rfl rfl rfl ?_
      refine v_load rfl rfl ⟨rfl, Nat.le_of_ble_eq_true rfl⟩ ?_
      refine v_ald9 rfl rfl ⟨by omega, by show _ < (1600 : Int); omega⟩ ?_
      rw [g1]
      refine v_load rfl rfl ⟨rfl, Nat.le_of_ble_eq_true rfl⟩ ?_
      refine v_getp rfl rfl rfl ?_
      refine v_load rfl rfl ⟨rfl, Nat.le_of_ble_eq_true rfl⟩ ?_
      refine v_ald9 rfl rfl ⟨by omega, by show _ < (1600 : Int); omega⟩ ?_
      rw [g2]
      refine v_add rfl (by omega) ?_
      refine v_push rfl ?_
      refine v_load rfl rfl ⟨rfl, Nat.le_of_ble_eq_true rfl⟩ ?_
      refine v_getp rfl rfl rfl ?_
      refine v_load rfl rfl ⟨rfl, Nat.le_of_ble_eq_true rfl⟩ ?_
      refine v_load rfl rfl ⟨rfl, Nat.le_of_ble_eq_true rfl⟩ ?_
      refine v_load rfl rfl ⟨rfl, Nat.le_of_ble_eq_true rfl⟩ ?_
      refine v_callr rfl ⟨Nat.le_of_ble_eq_true rfl, Nat.le_of_ble_eq_true rfl, rfl, Nat.le_of_ble_eq_true rfl, rfl⟩ ?_
      refine R_commonOf hS c3 c4 ?_
      refine v_ald9 rfl rfl ⟨r.1, by show _ < (1600 : Int); omega⟩ ?_
      rw [g3]
      refine v_mul rfl (by omega) ?_
      refine v_sub rfl (by omega) ?_
      refine v_ret rfl rfl ?_
      exact k
    · rw [if_neg (by omega)] at k
      refine v_load rfl rfl ⟨rfl, Nat.le_of_ble_eq_true rfl⟩ ?_
      refine v_load rfl rfl ⟨rfl, Nat.le_of_ble_eq_true rfl⟩ ?_
      refine v_callr rfl ⟨Nat.le_of_ble_eq_true rfl, Nat.le_of_ble_eq_true rfl, rfl, Nat.le_of_ble_eq_true rfl, rfl⟩ ?_
      refine R_isNode hS ha ?_
      rw [b2i_t (decide_eq_true c1)]
      refine v_ifeq rfl (fun h => absurd h (by decide)) (fun _ => ?_)
      refine v_load rfl rfl ⟨rfl, Nat.le_of_ble_eq_true rfl⟩ ?_
      refine v_load rfl rfl ⟨rfl, Nat.le_of_ble_eq_true rfl⟩ ?_
      refine v_callr rfl ⟨Nat.le_of_ble_eq_true rfl, Nat.le_of_ble_eq_true rfl, rfl, Nat.le_of_ble_eq_true rfl, rfl⟩ ?_
      refine R_isNode hS hb ?_
      rw [b2i_f (by simpa using c2)]
      refine v_ifne rfl (fun h => absurd h (by decide)) (fun _ => ?_)
      refine v_push rfl ?_
      refine v_ret rfl rfl ?_
      exact k
  · rw [if_neg (by omega)] at k
    refine v_load rfl rfl ⟨rfl, Nat.le_of_ble_eq_true rfl⟩ ?_
    refine v_load rfl rfl ⟨rfl, Nat.le_of_ble_eq_true rfl⟩ ?_
    refine v_callr rfl ⟨Nat.le_of_ble_eq_true rfl, Nat.le_of_ble_eq_true rfl, rfl, Nat.le_of_ble_eq_true rfl, rfl⟩ ?_
    refine R_isNode hS ha ?_
    rw [b2i_f (by simpa using c1)]
    refine v_ifeq rfl (fun _ => ?_) (fun h => absurd h (by decide))
    refine v_push rfl ?_
    refine v_ret rfl rfl ?_
    exact k
/-- cover -/
noncomputable def cvP (t : List Int) (a b : Int) (j : Nat) : Bool := decide (pF t (j : Int) ≤ a ∧ b ≤ pE t (j : Int))
noncomputable def cvL (t : List Int) (a b : Int) : Nat → Int
  | 0 => 0
  | n + 1 => if cvP t a b n = true then (n : Int) else cvL t a b n
noncomputable def coverQ (s : zA) (a b : Int) : Int := if 0 ≤ a ∧ a < b ∧ b ≤ (s.1.1.length : Int) then cvL s.1.1 a b (NT (toks s.1.1)).length else -1
theorem S_cover_loop {a b : Int} (hV : BV M 2 t 0) (hR : RT (toks t) M) (hN : TN (toks t) M) (hl : t.length ≤ 300) (k : Q (some (0, cvL t a b (NT (toks t)).length)) M) : ∀ (n j : Nat), n = (NT (toks t)).length - j → j ≤ (NT (toks t)).length → v_wp L (d + 4) 147 27 [(2, 1), (0, a), (0, b), (0, cvL t a b j), (0, (j : Int))] [] M Q := by
  intro n
  have hlN : (NT (toks t)).length ≤ 1216 := hN.1.2.1
  induction n with
  | zero =>
    intro j hn hj
    have ej : j = (NT (toks t)).length := by omega
    subst ej
    refine v_load rfl rfl ⟨rfl, Nat.le_of_ble_eq_true rfl⟩ ?_
    refine v_load rfl rfl ⟨rfl, Nat.le_of_ble_eq_true rfl⟩ ?_
    refine v_getp rfl rfl rfl ?_
    refine v_callr rfl ⟨Nat.le_of_ble_eq_true rfl, Nat.le_of_ble_eq_true rfl, rfl, Nat.le_of_ble_eq_true rfl, rfl⟩ ?_
    refine S_ndSize hN.1 ?_
    refine v_ige rfl (fun _ => ?_) (fun h => absurd h (by omega))
    refine v_load rfl rfl ⟨rfl, Nat.le_of_ble_eq_true rfl⟩ ?_
    refine v_ret rfl rfl ?_
    exact k
  | succ n ih =>
    intro j hn hj
    have ihh := ih (j + 1) (by omega) (by omega)
    unfold cvL at ihh
    rw [show ((j + 1 : Nat) : Int) = (j : Int) + 1 by omega] at ihh
    by_cases c : cvP t a b j = true
    · have c' := of_decide_eq_true c
      rw [if_pos c] at ihh
      refine v_load rfl rfl ⟨rfl, Nat.le_of_ble_eq_true rfl⟩ ?_
      refine v_load rfl rfl ⟨rfl, Nat.le_of_ble_eq_true rfl⟩ ?_
      refine v_getp rfl rfl rfl ?_
      refine v_callr rfl ⟨Nat.le_of_ble_eq_true rfl, Nat.le_of_ble_eq_true rfl, rfl, Nat.le_of_ble_eq_true rfl, rfl⟩ ?_
      refine S_ndSize hN.1 ?_
      refine v_ige rfl (fun h => absurd h (by omega)) (fun _ => ?_)
      refine v_load rfl rfl ⟨rfl, Nat.le_of_ble_eq_true rfl⟩ ?_
      refine v_getp rfl rfl rfl ?_
      refine v_load rfl rfl ⟨rfl, Nat.le_of_ble_eq_true rfl⟩ ?_
      refine v_callr rfl ⟨Nat.le_of_ble_eq_true rfl, Nat.le_of_ble_eq_true rfl, rfl, Nat.le_of_ble_eq_true rfl, rfl⟩ ?_
      refine S_firstOf hR hN hl ?_
      refine v_load rfl rfl ⟨rfl, Nat.le_of_ble_eq_true rfl⟩ ?_
      refine v_igt rfl (fun h => absurd h (by omega)) (fun _ => ?_)
      refine v_load rfl rfl ⟨rfl, Nat.le_of_ble_eq_true rfl⟩ ?_
      refine v_getp rfl rfl rfl ?_
      refine v_load rfl rfl ⟨rfl, Nat.le_of_ble_eq_true rfl⟩ ?_
      refine v_callr rfl ⟨Nat.le_of_ble_eq_true rfl, Nat.le_of_ble_eq_true rfl, rfl, Nat.le_of_ble_eq_true rfl, rfl⟩ ?_
      refine S_endOf hV hR hN hl ?_
      refine v_load rfl rfl ⟨rfl, Nat.le_of_ble_eq_true rfl⟩ ?_
      refine v_ilt rfl (fun h => absurd h (by omega)) (fun _ => ?_)
      refine v_load rfl rfl ⟨rfl, Nat.le_of_ble_eq_true rfl⟩ ?_
      refine v_store rfl ⟨rfl, Nat.le_of_ble_eq_true rfl, Nat.le_of_ble_eq_true rfl, rfl⟩ rfl ?_
      refine v_iinc rfl rfl rfl (by omega) rfl ?_
      refine v_goto rfl ?_
      exact ihh
    · have c' : ¬ (pF t (j : Int) ≤ a ∧ b ≤ pE t (j : Int)) := fun z => c (decide_eq_true z)
      rw [if_neg c] at ihh
      refine v_load rfl rfl ⟨rfl, Nat.le_of_ble_eq_true rfl⟩ ?_
      refine v_load rfl rfl ⟨rfl, Nat.le_of_ble_eq_true rfl⟩ ?_
      refine v_getp rfl rfl rfl ?_
      refine v_callr rfl ⟨Nat.le_of_ble_eq_true rfl, Nat.le_of_ble_eq_true rfl, rfl, Nat.le_of_ble_eq_true rfl, rfl⟩ ?_
      refine S_ndSize hN.1 ?_
      refine v_ige rfl (fun h => absurd h (by omega)) (fun _ => ?_)
      refine v_load rfl rfl ⟨rfl, Nat.le_of_ble_eq_true rfl⟩ ?_
      refine v_getp rfl rfl rfl ?_
      refine v_load rfl rfl ⟨rfl, Nat.le_of_ble_eq_true rfl⟩ ?_
      refine v_callr rfl ⟨Nat.le_of_ble_eq_true rfl, Nat.le_of_ble_eq_true rfl, rfl, Nat.le_of_ble_eq_true rfl, rfl⟩ ?_
      refine S_firstOf hR hN hl ?_
      refine v_load rfl rfl ⟨rfl, Nat.le_of_ble_eq_true rfl⟩ ?_
      refine v_igt rfl (fun c1 => ?_) (fun c1 => ?_)
      · refine v_iinc rfl rfl rfl (by omega) rfl ?_
        refine v_goto rfl ?_
        exact ihh
      · refine v_load rfl rfl ⟨rfl, Nat.le_of_ble_eq_true rfl⟩ ?_
        refine v_getp rfl rfl rfl ?_
        refine v_load rfl rfl ⟨rfl, Nat.le_of_ble_eq_true rfl⟩ ?_
        refine v_callr rfl ⟨Nat.le_of_ble_eq_true rfl, Nat.le_of_ble_eq_true rfl, rfl, Nat.le_of_ble_eq_true rfl, rfl⟩ ?_
        refine S_endOf hV hR hN hl ?_
        refine v_load rfl rfl ⟨rfl, Nat.le_of_ble_eq_true rfl⟩ ?_
        refine v_ilt rfl (fun _ => ?_) (fun h => absurd h (by omega))
        refine v_iinc rfl rfl rfl (by omega) rfl ?_
        refine v_goto rfl ?_
        exact ihh
theorem S_cover {a b : Int} (hC : CS s M) (hB : BS s n) (k : Q (some (0, coverQ s a b)) M) : v_call L (d + 10) 147 [(2, 1), (0, a), (0, b)] M Q := by
  obtain ⟨h1, -, -, -, h5, h6, -⟩ := id hC
  unfold coverQ at k
  refine v_in ?_
  by_cases c : 0 ≤ a ∧ a < b ∧ b ≤ (s.1.1.length : Int)
  · rw [if_pos c] at k
    refine v_load rfl rfl ⟨rfl, Nat.le_of_ble_eq_true rfl⟩ ?_
    refine v_iflt rfl (fun h => absurd h (by omega)) (fun _ => ?_)
    refine v_load rfl rfl ⟨rfl, Nat.le_of_ble_eq_true rfl⟩ ?_
    refine v_load rfl rfl ⟨rfl, Nat.le_of_ble_eq_true rfl⟩ ?_
    refine v_ige rfl (fun h => absurd h (by omega)) (fun _ => ?_)
    refine v_load rfl rfl ⟨rfl, Nat.le_of_ble_eq_true rfl⟩ ?_
    refine v_load rfl rfl ⟨rfl, Nat.le_of_ble_eq_true rfl⟩ ?_
    refine v_getp rfl rfl rfl ?_
    refine v_callr rfl ⟨Nat.le_of_ble_eq_true rfl, Nat.le_of_ble_eq_true rfl, rfl, Nat.le_of_ble_eq_true rfl, rfl⟩ ?_
    refine S_sizeT z_B2 h1 ?_
    refine v_ile rfl (fun _ => ?_) (fun h => absurd h (by omega))
    refine v_push rfl ?_
    refine v_store rfl ⟨rfl, Nat.le_of_ble_eq_true rfl, Nat.le_of_ble_eq_true rfl, rfl⟩ rfl ?_
    refine v_push rfl ?_
    refine v_store rfl ⟨rfl, Nat.le_of_ble_eq_true rfl, Nat.le_of_ble_eq_true rfl, rfl⟩ rfl ?_
    exact S_cover_loop (d := d + 6) h1 h5 h6 hB.1 k _ 0 rfl (Nat.zero_le _)
  · rw [if_neg c] at k
    refine v_load rfl rfl ⟨rfl, Nat.le_of_ble_eq_true rfl⟩ ?_
    refine v_iflt rfl (fun c5 => ?_) (fun c5 => ?_)
    · refine v_push rfl ?_
      refine v_ret rfl rfl ?_
      first | exact k | (exfalso; omega)
    · refine v_load rfl rfl ⟨rfl, Nat.le_of_ble_eq_true rfl⟩ ?_
      refine v_load rfl rfl ⟨rfl, Nat.le_of_ble_eq_true rfl⟩ ?_
      refine v_ige rfl (fun c6 => ?_) (fun c6 => ?_)
      · refine v_push rfl ?_
        refine v_ret rfl rfl ?_
        first | exact k | (exfalso; omega)
      · refine v_load rfl rfl ⟨rfl, Nat.le_of_ble_eq_true rfl⟩ ?_
        refine v_load rfl rfl ⟨rfl, Nat.le_of_ble_eq_true rfl⟩ ?_
        refine v_getp rfl rfl rfl ?_
        refine v_callr rfl ⟨Nat.le_of_ble_eq_true rfl, Nat.le_of_ble_eq_true rfl, rfl, Nat.le_of_ble_eq_true rfl, rfl⟩ ?_
        refine S_sizeT z_B2 h1 ?_
        refine v_ile rfl (fun c7 => ?_) (fun c7 => ?_)
        · first | exact k | (exfalso; omega)
        · refine v_push rfl ?_
          refine v_ret rfl rfl ?_
          first | exact k | (exfalso; omega)
theorem cv_pos {a b : Int} (h : a < b) {j : Int} (hj : 0 < j) (c : pF t j ≤ a ∧ b ≤ pE t j) : (nd (NT (toks t)) j).2.2.2.2.2.2.1 ≠ 0 := by
  intro z
  unfold pF pE at c
  rw [if_neg (by omega), if_pos z, if_neg (by omega), z, Int.add_zero] at c
  omega
theorem R_cover_loop {a b : Int} (hab : a < b) (hS : RSt t M) (k : Q (some (0, cvL t a b (NT (toks t)).length)) M) : ∀ (n j : Nat), n = (NT (toks t)).length - j → j ≤ (NT (toks t)).length → 1 ≤ j → (0 ≤ cvL t a b j ∧ cvL t a b j < (j : Int) ∧ (cvL t a b j = 0 ∨ (pF t (cvL t a b j) ≤ a ∧ b ≤ pE t (cvL t a b j)))) → v_wp L (d + 4) 273 24 [(2, 77), (0, a), (0, b), (0, cvL t a b j), (0, (j : Int))] [] M Q := by
  intro n
  have hl := NT_1216 hS
  have h44 := (TM_len hS.2.2.1).1
  induction n with
  | zero =>
    intro j hn hj _ _
    have ej : j = (NT (toks t)).length := by omega
    subst ej
    refine v_load rfl rfl ⟨rfl, Nat.le_of_ble_eq_true rfl⟩ ?_
    refine v_load rfl rfl ⟨rfl, Nat.le_of_ble_eq_true rfl⟩ ?_
    refine v_getx rfl rfl (h44) ?_
    refine v_ige rfl (fun _ => ?_) (fun h => absurd h (by omega))
    refine v_load rfl rfl ⟨rfl, Nat.le_of_ble_eq_true rfl⟩ ?_
    refine v_ret rfl rfl ?_
    exact k
  | succ n ih =>
    intro j hn hj h1 hc
    have hi : 0 ≤ (j : Int) ∧ (j : Int) < ((NT (toks t)).length : Int) := ⟨by omega, by omega⟩
    obtain ⟨-, -, -, -, g5, -, g7, -⟩ := TM_nd hS hi
    have gb := (TM_nd hS (i := cvL t a b j) ⟨hc.1, by omega⟩).2.2.2.2.1
    have nn := nd_rng (t := t) hS.1.2.1 (j : Int)
    have ihh := ih (j + 1) (by omega) (by omega) (by omega)
    have e : cvL t a b (j + 1) = if cvP t a b j = true then (j : Int) else cvL t a b j := rfl
    rw [e, show ((j + 1 : Nat) : Int) = (j : Int) + 1 by omega] at ihh
    by_cases c : cvP t a b j = true
    · have c' := of_decide_eq_true c
      rw [if_pos c] at ihh
      have z := cv_pos (t := t) hab (j := (j : Int)) (by omega) c'
      have ins : (j : Int) < cvL t a b j + (nd (NT (toks t)) (cvL t a b j)).2.2.2.1 := by
        by_cases c0 : cvL t a b j = 0
        · rw [c0, root_siz.1]; omega
        · by_cases c1 : (j : Int) < cvL t a b j + (nd (NT (toks t)) (cvL t a b j)).2.2.2.1
          · exact c1
          · have := pE_pF (t := t) (i := cvL t a b j) (j := (j : Int)) (by omega) hi.2 ⟨hc.2.1, by omega⟩
            omega
      have dp := (nest (t := t) ⟨hc.1, by omega⟩ ⟨hc.2.1, ins⟩).2.2
      refine v_load rfl rfl ⟨rfl, Nat.le_of_ble_eq_true rfl⟩ ?_
      refine v_load rfl rfl ⟨rfl, Nat.le_of_ble_eq_true rfl⟩ ?_
      refine v_getx rfl rfl (h44) ?_
      refine v_ige rfl (fun h => absurd h (by omega)) (fun _ => ?_)
      refine v_load rfl rfl ⟨rfl, Nat.le_of_ble_eq_true rfl⟩ ?_
      refine v_getp rfl rfl rfl ?_
      refine v_load rfl rfl ⟨rfl, Nat.le_of_ble_eq_true rfl⟩ ?_
      refine v_ald9 rfl rfl ⟨by omega, by show _ < (1600 : Int); omega⟩ ?_
      rw [g7]
      refine v_ifle rfl (fun h => absurd h (by omega)) (fun _ => ?_)
      refine v_load rfl rfl ⟨rfl, Nat.le_of_ble_eq_true rfl⟩ ?_
      refine v_load rfl rfl ⟨rfl, Nat.le_of_ble_eq_true rfl⟩ ?_
      refine v_callr rfl ⟨Nat.le_of_ble_eq_true rfl, Nat.le_of_ble_eq_true rfl, rfl, Nat.le_of_ble_eq_true rfl, rfl⟩ ?_
      refine R_from hS hi ?_
      refine v_load rfl rfl ⟨rfl, Nat.le_of_ble_eq_true rfl⟩ ?_
      refine v_igt rfl (fun h => absurd h (by omega)) (fun _ => ?_)
      refine v_load rfl rfl ⟨rfl, Nat.le_of_ble_eq_true rfl⟩ ?_
      refine v_load rfl rfl ⟨rfl, Nat.le_of_ble_eq_true rfl⟩ ?_
      refine v_callr rfl ⟨Nat.le_of_ble_eq_true rfl, Nat.le_of_ble_eq_true rfl, rfl, Nat.le_of_ble_eq_true rfl, rfl⟩ ?_
      refine R_to hS hi ?_
      refine v_load rfl rfl ⟨rfl, Nat.le_of_ble_eq_true rfl⟩ ?_
      refine v_ilt rfl (fun h => absurd h (by omega)) (fun _ => ?_)
      refine v_load rfl rfl ⟨rfl, Nat.le_of_ble_eq_true rfl⟩ ?_
      refine v_getp rfl rfl rfl ?_
      refine v_load rfl rfl ⟨rfl, Nat.le_of_ble_eq_true rfl⟩ ?_
      refine v_ald9 rfl rfl ⟨by omega, by show _ < (1600 : Int); omega⟩ ?_
      rw [g5]
      refine v_load rfl rfl ⟨rfl, Nat.le_of_ble_eq_true rfl⟩ ?_
      refine v_getp rfl rfl rfl ?_
      refine v_load rfl rfl ⟨rfl, Nat.le_of_ble_eq_true rfl⟩ ?_
      refine v_ald9 rfl rfl ⟨by omega, by show _ < (1600 : Int); omega⟩ ?_
      rw [gb]
      refine v_ile rfl (fun h => absurd h (by omega)) (fun _ => ?_)
      refine v_load rfl rfl ⟨rfl, Nat.le_of_ble_eq_true rfl⟩ ?_
      refine v_store rfl ⟨rfl, Nat.le_of_ble_eq_true rfl, Nat.le_of_ble_eq_true rfl, rfl⟩ rfl ?_
      refine v_iinc rfl rfl rfl (by omega) rfl ?_
      refine v_goto rfl ?_
      exact ihh ⟨by omega, by omega, Or.inr c'⟩
    · have c' : ¬ (pF t (j : Int) ≤ a ∧ b ≤ pE t (j : Int)) := fun z => c (decide_eq_true z)
      rw [if_neg c] at ihh
      refine v_load rfl rfl ⟨rfl, Nat.le_of_ble_eq_true rfl⟩ ?_
      refine v_load rfl rfl ⟨rfl, Nat.le_of_ble_eq_true rfl⟩ ?_
      refine v_getx rfl rfl (h44) ?_
      refine v_ige rfl (fun h => absurd h (by omega)) (fun _ => ?_)
      refine v_load rfl rfl ⟨rfl, Nat.le_of_ble_eq_true rfl⟩ ?_
      refine v_getp rfl rfl rfl ?_
      refine v_load rfl rfl ⟨rfl, Nat.le_of_ble_eq_true rfl⟩ ?_
      refine v_ald9 rfl rfl ⟨by omega, by show _ < (1600 : Int); omega⟩ ?_
      rw [g7]
      refine v_ifle rfl (fun c0 => ?_) (fun c0 => ?_)
      · refine v_iinc rfl rfl rfl (by omega) rfl ?_
        refine v_goto rfl ?_
        exact ihh ⟨by omega, by omega, hc.2.2⟩
      · refine v_load rfl rfl ⟨rfl, Nat.le_of_ble_eq_true rfl⟩ ?_
        refine v_load rfl rfl ⟨rfl, Nat.le_of_ble_eq_true rfl⟩ ?_
        refine v_callr rfl ⟨Nat.le_of_ble_eq_true rfl, Nat.le_of_ble_eq_true rfl, rfl, Nat.le_of_ble_eq_true rfl, rfl⟩ ?_
        refine R_from hS hi ?_
        refine v_load rfl rfl ⟨rfl, Nat.le_of_ble_eq_true rfl⟩ ?_
        refine v_igt rfl (fun c1 => ?_) (fun c1 => ?_)
        · refine v_iinc rfl rfl rfl (by omega) rfl ?_
          refine v_goto rfl ?_
          exact ihh ⟨by omega, by omega, hc.2.2⟩
        · refine v_load rfl rfl ⟨rfl, Nat.le_of_ble_eq_true rfl⟩ ?_
          refine v_load rfl rfl ⟨rfl, Nat.le_of_ble_eq_true rfl⟩ ?_
          refine v_callr rfl ⟨Nat.le_of_ble_eq_true rfl, Nat.le_of_ble_eq_true rfl, rfl, Nat.le_of_ble_eq_true rfl, rfl⟩ ?_
          refine R_to hS hi ?_
          refine v_load rfl rfl ⟨rfl, Nat.le_of_ble_eq_true rfl⟩ ?_
          refine v_ilt rfl (fun _ => ?_) (fun h => absurd h (by omega))
          refine v_iinc rfl rfl rfl (by omega) rfl ?_
          refine v_goto rfl ?_
          exact ihh ⟨by omega, by omega, hc.2.2⟩
theorem R_cover {a b : Int} (hC : RS s M) (k : Q (some (0, coverQ s a b)) M) : v_call L (d + 10) 273 [(2, 77), (0, a), (0, b)] M Q := by
  have hS := hC.1
  have h4 := hS.1.1
  unfold coverQ at k
  refine v_in ?_
  by_cases c : 0 ≤ a ∧ a < b ∧ b ≤ (s.1.1.length : Int)
  · rw [if_pos c] at k
    have e : cvL s.1.1 a b 1 = 0 := by unfold cvL; split <;> rfl
    have r := root_siz (t := s.1.1)
    have go := R_cover_loop (L := L) (d := d + 6) (t := s.1.1) c.2.1 hS k _ 1 rfl (by omega) (Nat.le_refl _) (by rw [e]; exact ⟨by omega, by omega, Or.inl rfl⟩)
    rw [e] at go
    refine v_load rfl rfl ⟨rfl, Nat.le_of_ble_eq_true rfl⟩ ?_
    refine v_iflt rfl (fun h => absurd h (by omega)) (fun _ => ?_)
    refine v_load rfl rfl ⟨rfl, Nat.le_of_ble_eq_true rfl⟩ ?_
    refine v_load rfl rfl ⟨rfl, Nat.le_of_ble_eq_true rfl⟩ ?_
    refine v_ige rfl (fun h => absurd h (by omega)) (fun _ => ?_)
    refine v_load rfl rfl ⟨rfl, Nat.le_of_ble_eq_true rfl⟩ ?_
    refine v_load rfl rfl ⟨rfl, Nat.le_of_ble_eq_true rfl⟩ ?_
    refine v_getx rfl rfl (h4) ?_
    refine v_ile rfl (fun _ => ?_) (fun h => absurd h (by omega))
    refine v_push rfl ?_
    refine v_store rfl ⟨rfl, Nat.le_of_ble_eq_true rfl, Nat.le_of_ble_eq_true rfl, rfl⟩ rfl ?_
    refine v_push rfl ?_
    refine v_store rfl ⟨rfl, Nat.le_of_ble_eq_true rfl, Nat.le_of_ble_eq_true rfl, rfl⟩ rfl ?_
    exact go
  · rw [if_neg c] at k
    refine v_load rfl rfl ⟨rfl, Nat.le_of_ble_eq_true rfl⟩ ?_
    refine v_iflt rfl (fun c8 => ?_) (fun c8 => ?_)
    · refine v_push rfl ?_
      refine v_ret rfl rfl ?_
      first | exact k | (exfalso; omega)
    · refine v_load rfl rfl ⟨rfl, Nat.le_of_ble_eq_true rfl⟩ ?_
      refine v_load rfl rfl ⟨rfl, Nat.le_of_ble_eq_true rfl⟩ ?_
      refine v_ige rfl (fun c9 => ?_) (fun c9 => ?_)
      · refine v_push rfl ?_
        refine v_ret rfl rfl ?_
        first | exact k | (exfalso; omega)
      · refine v_load rfl rfl ⟨rfl, Nat.le_of_ble_eq_true rfl⟩ ?_
        refine v_load rfl rfl ⟨rfl, Nat.le_of_ble_eq_true rfl⟩ ?_
        refine v_getx rfl rfl h4 ?_
        refine v_ile rfl (fun c10 => ?_) (fun c10 => ?_)
        · first | exact k | (exfalso; omega)
        · refine v_push rfl ?_
          refine v_ret rfl rfl ?_
          first | exact k | (exfalso; omega)
end QD
