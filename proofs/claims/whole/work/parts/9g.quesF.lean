/-! QUESTIONS: whole, share -/
section QF
variable {L d n : Nat} {M : zM} {Q : Option zV → zM → Prop} {s : zA} {t : List Int}
/-- none around it is kept -/
def NK (t : List Int) (Kp : Nat → Bool) (j : Nat) : Prop := ∀ x : Nat, x < j → Kp x = true → ¬ (j : Int) < (x : Int) + (nd (NT (toks t)) (x : Int)).2.2.2.1
noncomputable def nkB (t : List Int) (Kp : Nat → Bool) (j : Nat) : Bool := decide (∀ x : Nat, x < j → Kp x = true → ¬ (j : Int) < (x : Int) + (nd (NT (toks t)) (x : Int)).2.2.2.1)
theorem nkB_iff {Kp : Nat → Bool} {j : Nat} : nkB t Kp j = true ↔ NK t Kp j := by
  unfold nkB NK
  rw [decide_eq_true_eq]
noncomputable def wkP (t : List Int) (Kp : Nat → Bool) (j : Nat) : Bool := Kp j && decide (∀ x : Nat, x < j → Kp x = true → ¬ (j : Int) < (x : Int) + (nd (NT (toks t)) (x : Int)).2.2.2.1)
theorem wkP_iff {Kp : Nat → Bool} {j : Nat} : wkP t Kp j = true ↔ Kp j = true ∧ NK t Kp j := by
  unfold wkP NK
  rw [Bool.and_eq_true, decide_eq_true_eq]
theorem wk_s {Kp : Nat → Bool} {j : Nat} : cI (wkP t Kp) (j + 1) = cI (wkP t Kp) j + (if wkP t Kp j = true then 1 else 0) := rfl
theorem anc_up {x y : Int} (hy : 0 < y ∧ y < ((NT (toks t)).length : Int)) (hx : 0 ≤ x) : (x ≤ (nd (NT (toks t)) y).2.1 ∧ (nd (NT (toks t)) y).2.1 < x + (nd (NT (toks t)) x).2.2.2.1) ↔ (x < y ∧ y < x + (nd (NT (toks t)) x).2.2.2.1) := by
  have u := up_in (t := t) (y := y) hy
  constructor
  · intro z
    by_cases c : x = (nd (NT (toks t)) y).2.1
    · rw [c]; omega
    · have := nest (t := t) (x := x) ⟨hx, by omega⟩ (y := (nd (NT (toks t)) y).2.1) ⟨by omega, z.2⟩
      omega
  · intro z
    have := nest (t := t) (x := x) ⟨hx, by omega⟩ ⟨z.1, z.2⟩
    omega
/-- the class: behind a kept one all within it is passed over -/
theorem wk_skip {Kp : Nat → Bool} {p : Nat} (hp : p < (NT (toks t)).length) (hk : Kp p = true) (hN : NK t Kp p) : ∀ m : Nat, (p : Int) + 1 + (m : Int) ≤ (p : Int) + (nd (NT (toks t)) (p : Int)).2.2.2.1 → cI (wkP t Kp) (p + 1 + m) = cI (wkP t Kp) p + 1
  | 0, _ => by
    show cI (wkP t Kp) (p + 1) = _
    rw [wk_s, if_pos (wkP_iff.mpr ⟨hk, hN⟩)]
  | m + 1, h => by
    rw [show p + 1 + (m + 1) = (p + 1 + m) + 1 by omega, wk_s, wk_skip hp hk hN m (by omega), if_neg (fun z => (wkP_iff.mp z).2 p (by omega) hk (by omega)), Int.add_zero]
theorem nk_skip {Kp : Nat → Bool} {p q : Nat} (hp : p < (NT (toks t)).length) (hq : (q : Int) = (p : Int) + (nd (NT (toks t)) (p : Int)).2.2.2.1) (hN : NK t Kp p) : NK t Kp q := by
  intro x hx hk z
  have z0 := NT_siz (t := t) (i := (p : Int)) ⟨by omega, by omega⟩
  by_cases c : x < p
  · exact hN x c hk (by omega)
  · by_cases c1 : x = p
    · subst c1; omega
    · have := nest (t := t) (x := (p : Int)) (y := (x : Int)) ⟨by omega, by omega⟩ ⟨by omega, by omega⟩
      omega
theorem nk_next {Kp : Nat → Bool} {p : Nat} (hk : ¬ Kp p = true) (hN : NK t Kp p) : NK t Kp (p + 1) := by
  intro x hx hkx z
  by_cases c : x = p
  · subst c; exact hk hkx
  · exact hN x (by omega) hkx (by omega)
theorem S_whole_loop {O : Nat → Int} {Kp : Nat → Bool} {Ls : Int → Int} {nT : Nat} (hN : RN (NT (toks t)) M) (hK : KPC O Kp Ls nT (NT (toks t)).length M) (k : Q (some (0, cI (wkP t Kp) (NT (toks t)).length)) M) : ∀ (n p j : Nat) (w : zV), (NT (toks t)).length - p ≤ n → p ≤ (NT (toks t)).length → j ≤ p → NK t Kp p → v_wp L (d + 4) 165 6 [(2, 1), (0, cI (wkP t Kp) p), (0, (p : Int)), (0, (j : Int)), w] [] M Q := by
  intro n
  have hl : (NT (toks t)).length ≤ 1216 := hN.2.1
  have fin : ∀ (p j : Nat) (w : zV), p = (NT (toks t)).length → v_wp L (d + 4) 165 6 [(2, 1), (0, cI (wkP t Kp) p), (0, (p : Int)), (0, (j : Int)), w] [] M Q := by
    intro p j w e
    subst e
    refine v_load rfl rfl ⟨rfl, Nat.le_of_ble_eq_true rfl⟩ ?_
    refine v_push rfl ?_
    refine v_ige rfl (fun c1 => ?_) (fun c1 => ?_)
    · refine v_load rfl rfl ⟨rfl, Nat.le_of_ble_eq_true rfl⟩ ?_
      refine v_ret rfl rfl ?_
      exact k
    · refine v_load rfl rfl ⟨rfl, Nat.le_of_ble_eq_true rfl⟩ ?_
      refine v_load rfl rfl ⟨rfl, Nat.le_of_ble_eq_true rfl⟩ ?_
      refine v_getp rfl rfl rfl ?_
      refine v_callr rfl ⟨Nat.le_of_ble_eq_true rfl, Nat.le_of_ble_eq_true rfl, rfl, Nat.le_of_ble_eq_true rfl, rfl⟩ ?_
      refine S_ndSize hN ?_
      refine v_ige rfl (fun _ => ?_) (fun h => absurd h (by omega))
      refine v_load rfl rfl ⟨rfl, Nat.le_of_ble_eq_true rfl⟩ ?_
      refine v_ret rfl rfl ?_
      exact k
  induction n with
  | zero => intro p j w h1 h2 h3 h4; exact fin p j w (by omega)
  | succ n ih =>
    intro p j w h1 h2 h3 h4
    by_cases ce : p = (NT (toks t)).length
    · exact fin p j w ce
    · have hp : p < (NT (toks t)).length := by omega
      have z0 := NT_siz (t := t) (i := (p : Int)) ⟨by omega, by omega⟩
      have hc := cI_nn (wkP t Kp) p
      by_cases c : Kp p = true
      · have em : (if (1 : Int) < (nd (NT (toks t)) (p : Int)).2.2.2.1 then (nd (NT (toks t)) (p : Int)).2.2.2.1 else 1) = (nd (NT (toks t)) (p : Int)).2.2.2.1 := by split <;> omega
        have q0 := wk_skip hp c h4 ((nd (NT (toks t)) (p : Int)).2.2.2.1.toNat - 1) (by omega)
        have q1 := nk_skip (q := p + 1 + ((nd (NT (toks t)) (p : Int)).2.2.2.1.toNat - 1)) hp (by omega) h4
        have ihh := ih (p + 1 + ((nd (NT (toks t)) (p : Int)).2.2.2.1.toNat - 1)) (j + 1) (0, 1) (by omega) (by omega) (by omega) q1
        rw [q0, show ((p + 1 + ((nd (NT (toks t)) (p : Int)).2.2.2.1.toNat - 1) : Nat) : Int) = (p : Int) + (nd (NT (toks t)) (p : Int)).2.2.2.1 by omega, show ((j + 1 : Nat) : Int) = (j : Int) + 1 by omega] at ihh
        refine v_load rfl rfl ⟨rfl, Nat.le_of_ble_eq_true rfl⟩ ?_
        refine v_push rfl ?_
        refine v_ige rfl (fun h => absurd h (by omega)) (fun _ => ?_)
        refine v_load rfl rfl ⟨rfl, Nat.le_of_ble_eq_true rfl⟩ ?_
        refine v_load rfl rfl ⟨rfl, Nat.le_of_ble_eq_true rfl⟩ ?_
        refine v_getp rfl rfl rfl ?_
        refine v_callr rfl ⟨Nat.le_of_ble_eq_true rfl, Nat.le_of_ble_eq_true rfl, rfl, Nat.le_of_ble_eq_true rfl, rfl⟩ ?_
        refine S_ndSize hN ?_
        refine v_ige rfl (fun h => absurd h (by omega)) (fun _ => ?_)
        refine v_load rfl rfl ⟨rfl, Nat.le_of_ble_eq_true rfl⟩ ?_
        refine v_getp rfl rfl rfl ?_
        refine v_load rfl rfl ⟨rfl, Nat.le_of_ble_eq_true rfl⟩ ?_
        refine v_callr rfl ⟨Nat.le_of_ble_eq_true rfl, Nat.le_of_ble_eq_true rfl, rfl, Nat.le_of_ble_eq_true rfl, rfl⟩ ?_
        refine S_isNodeKept hN hK ⟨by omega, by omega⟩ ?_
        rw [Int.toNat_natCast, b2i_t c]
        refine v_store rfl ⟨rfl, Nat.le_of_ble_eq_true rfl, Nat.le_of_ble_eq_true rfl, rfl⟩ rfl ?_
        refine v_load rfl rfl ⟨rfl, Nat.le_of_ble_eq_true rfl⟩ ?_
        refine v_load rfl rfl ⟨rfl, Nat.le_of_ble_eq_true rfl⟩ ?_
        refine v_ifeq rfl (fun h => absurd h (by decide)) (fun _ => ?_)
        refine v_push rfl ?_
        refine v_goto rfl ?_
        refine v_add rfl (by omega) ?_
        refine v_store rfl ⟨rfl, Nat.le_of_ble_eq_true rfl, Nat.le_of_ble_eq_true rfl, rfl⟩ rfl ?_
        refine v_load rfl rfl ⟨rfl, Nat.le_of_ble_eq_true rfl⟩ ?_
        refine v_load rfl rfl ⟨rfl, Nat.le_of_ble_eq_true rfl⟩ ?_
        refine v_ifeq rfl (fun h => absurd h (by decide)) (fun _ => ?_)
        refine v_push rfl ?_
        refine v_load rfl rfl ⟨rfl, Nat.le_of_ble_eq_true rfl⟩ ?_
        refine v_getp rfl rfl rfl ?_
        refine v_load rfl rfl ⟨rfl, Nat.le_of_ble_eq_true rfl⟩ ?_
        refine v_callr rfl ⟨Nat.le_of_ble_eq_true rfl, Nat.le_of_ble_eq_true rfl, rfl, Nat.le_of_ble_eq_true rfl, rfl⟩ ?_
        refine S_ndSiz hN ?_
        refine v_max rfl (by show ¬ (4 : Nat) < 1; decide) ?_
        rw [em]
        refine v_goto rfl ?_
        refine v_add rfl (by omega) ?_
        refine v_store rfl ⟨rfl, Nat.le_of_ble_eq_true rfl, Nat.le_of_ble_eq_true rfl, rfl⟩ rfl ?_
        refine v_iinc rfl rfl rfl (by omega) rfl ?_
        refine v_goto rfl ?_
        exact ihh
      · have q0 : cI (wkP t Kp) (p + 1) = cI (wkP t Kp) p + 0 := by rw [wk_s, if_neg (fun z => c (wkP_iff.mp z).1)]
        have ihh := ih (p + 1) (j + 1) (0, 0) (by omega) (by omega) (by omega) (nk_next c h4)
        rw [q0, show ((p + 1 : Nat) : Int) = (p : Int) + 1 by omega, show ((j + 1 : Nat) : Int) = (j : Int) + 1 by omega] at ihh
        refine v_load rfl rfl ⟨rfl, Nat.le_of_ble_eq_true rfl⟩ ?_
        refine v_push rfl ?_
        refine v_ige rfl (fun h => absurd h (by omega)) (fun _ => ?_)
        refine v_load rfl rfl ⟨rfl, Nat.le_of_ble_eq_true rfl⟩ ?_
        refine v_load rfl rfl ⟨rfl, Nat.le_of_ble_eq_true rfl⟩ ?_
        refine v_getp rfl rfl rfl ?_
        refine v_callr rfl ⟨Nat.le_of_ble_eq_true rfl, Nat.le_of_ble_eq_true rfl, rfl, Nat.le_of_ble_eq_true rfl, rfl⟩ ?_
        refine S_ndSize hN ?_
        refine v_ige rfl (fun h => absurd h (by omega)) (fun _ => ?_)
        refine v_load rfl rfl ⟨rfl, Nat.le_of_ble_eq_true rfl⟩ ?_
        refine v_getp rfl rfl rfl ?_
        refine v_load rfl rfl ⟨rfl, Nat.le_of_ble_eq_true rfl⟩ ?_
        refine v_callr rfl ⟨Nat.le_of_ble_eq_true rfl, Nat.le_of_ble_eq_true rfl, rfl, Nat.le_of_ble_eq_true rfl, rfl⟩ ?_
        refine S_isNodeKept hN hK ⟨by omega, by omega⟩ ?_
        rw [Int.toNat_natCast, b2i_f c]
        refine v_store rfl ⟨rfl, Nat.le_of_ble_eq_true rfl, Nat.le_of_ble_eq_true rfl, rfl⟩ rfl ?_
        refine v_load rfl rfl ⟨rfl, Nat.le_of_ble_eq_true rfl⟩ ?_
        refine v_load rfl rfl ⟨rfl, Nat.le_of_ble_eq_true rfl⟩ ?_
        refine v_ifeq rfl (fun _ => ?_) (fun h => absurd h (by decide))
        refine v_push rfl ?_
        refine v_add rfl (by omega) ?_
        refine v_store rfl ⟨rfl, Nat.le_of_ble_eq_true rfl, Nat.le_of_ble_eq_true rfl, rfl⟩ rfl ?_
        refine v_load rfl rfl ⟨rfl, Nat.le_of_ble_eq_true rfl⟩ ?_
        refine v_load rfl rfl ⟨rfl, Nat.le_of_ble_eq_true rfl⟩ ?_
        refine v_ifeq rfl (fun _ => ?_) (fun h => absurd h (by decide))
        refine v_push rfl ?_
        refine v_add rfl (by omega) ?_
        refine v_store rfl ⟨rfl, Nat.le_of_ble_eq_true rfl, Nat.le_of_ble_eq_true rfl, rfl⟩ rfl ?_
        refine v_iinc rfl rfl rfl (by omega) rfl ?_
        refine v_goto rfl ?_
        exact ihh
noncomputable def wholeQ (s : zA) : Int := cI (wkP s.1.1 s.2.2.1.2.1) (NT (toks s.1.1)).length
theorem S_whole (hC : CS s M) (k : Q (some (0, wholeQ s)) M) : v_call L (d + 10) 165 [(2, 1)] M Q := by
  obtain ⟨-, -, -, -, -, h6, h7, -⟩ := id hC
  refine v_in ?_
  refine v_push rfl ?_
  refine v_store rfl ⟨rfl, Nat.le_of_ble_eq_true rfl, Nat.le_of_ble_eq_true rfl, rfl⟩ rfl ?_
  refine v_push rfl ?_
  refine v_store rfl ⟨rfl, Nat.le_of_ble_eq_true rfl, Nat.le_of_ble_eq_true rfl, rfl⟩ rfl ?_
  refine v_push rfl ?_
  refine v_store rfl ⟨rfl, Nat.le_of_ble_eq_true rfl, Nat.le_of_ble_eq_true rfl, rfl⟩ rfl ?_
  exact S_whole_loop (d := d + 6) h6.1 h7 k _ 0 0 _ (Nat.le_refl _) (Nat.zero_le _) (Nat.le_refl _) (fun x hx => absurd hx (Nat.not_lt_zero _))
theorem R_wk_loop {O : Nat → Int} {Kp : Nat → Bool} {Ls : Int → Int} {nT : Nat} {j : Nat} (hj : j < (NT (toks t)).length) (hS : RSt t M) (hK : KPR O Kp Ls nT (NT (toks t)).length M) (k : Q (some (0, b2i (!nkB t Kp j))) M) : ∀ (n : Nat) (p : Int), p < (n : Int) → -1 ≤ p → p < (j : Int) → (0 ≤ p → (j : Int) < p + (nd (NT (toks t)) p).2.2.2.1) → (∀ x : Nat, p < (x : Int) → x < j → Kp x = true → ¬ (j : Int) < (x : Int) + (nd (NT (toks t)) (x : Int)).2.2.2.1) → v_wp L (d + 2) 296 7 [(2, 77), (0, (j : Int)), (0, p)] [] M Q := by
  intro n
  have hl := NT_1216 hS
  have fin : ∀ p : Int, p = -1 → (∀ x : Nat, p < (x : Int) → x < j → Kp x = true → ¬ (j : Int) < (x : Int) + (nd (NT (toks t)) (x : Int)).2.2.2.1) → v_wp L (d + 2) 296 7 [(2, 77), (0, (j : Int)), (0, p)] [] M Q := by
    intro p e h
    subst e
    rw [nkB_iff.mpr (show NK t Kp j from fun x hx => h x (by omega) hx)] at k
    refine v_load rfl rfl ⟨rfl, Nat.le_of_ble_eq_true rfl⟩ ?_
    refine v_push rfl ?_
    refine v_ieq rfl (fun _ => ?_) (fun h => absurd h (by omega))
    refine v_load rfl rfl ⟨rfl, Nat.le_of_ble_eq_true rfl⟩ ?_
    refine v_push rfl ?_
    refine v_ieq rfl (fun _ => ?_) (fun h => absurd h (by omega))
    refine v_push rfl ?_
    first | refine v_ret rfl rfl ?_ | refine v_retz rfl (b2i_01 _) ?_ | refine v_retz rfl (by omega) ?_
    exact k
  induction n with
  | zero => intro p h1 h2 h3 h4 h5; exact fin p (by omega) h5
  | succ n ih =>
    intro p h1 h2 h3 h4 h5
    by_cases c : p = -1
    · exact fin p c h5
    · have hp : 0 ≤ p ∧ p < ((NT (toks t)).length : Int) := ⟨by omega, by omega⟩
      have gk := hK.2.1 p.toNat (by omega)
      rw [show ((p.toNat : Nat) : Int) = p by omega] at gk
      have g2 := (TM_nd hS hp).2.1
      by_cases c1 : Kp p.toNat = true
      · have ef : nkB t Kp j = false := Bool.eq_false_iff.mpr (fun z => nkB_iff.mp z p.toNat (by omega) c1 (by rw [show ((p.toNat : Nat) : Int) = p by omega]; exact h4 hp.1))
        rw [ef] at k
        refine v_load rfl rfl ⟨rfl, Nat.le_of_ble_eq_true rfl⟩ ?_
        refine v_push rfl ?_
        refine v_ieq rfl (fun h => absurd h (by omega)) (fun _ => ?_)
        refine v_load rfl rfl ⟨rfl, Nat.le_of_ble_eq_true rfl⟩ ?_
        refine v_getp rfl rfl rfl ?_
        refine v_load rfl rfl ⟨rfl, Nat.le_of_ble_eq_true rfl⟩ ?_
        refine v_ald11 rfl rfl ⟨by omega, by show _ < (1600 : Int); omega⟩ ?_
        rw [gk, b2i_t c1]
        refine v_ifne rfl (fun _ => ?_) (fun h => absurd h (by decide))
        refine v_load rfl rfl ⟨rfl, Nat.le_of_ble_eq_true rfl⟩ ?_
        refine v_push rfl ?_
        refine v_ieq rfl (fun h => absurd h (by omega)) (fun _ => ?_)
        refine v_push rfl ?_
        refine v_goto rfl ?_
        first | refine v_ret rfl rfl ?_ | refine v_retz rfl (b2i_01 _) ?_ | refine v_retz rfl (by omega) ?_
        exact k
      · have u := NT_upr hp
        have ihh := ih (nd (NT (toks t)) p).2.1 (by omega) u.1 (by omega) (fun z => by
            by_cases c0 : p = 0
            · subst c0; omega
            · have ui := up_in (t := t) (y := p) ⟨by omega, hp.2⟩
              have := nest (t := t) (x := (nd (NT (toks t)) p).2.1) ⟨z, by omega⟩ (y := p) ⟨by omega, ui.2.2.1⟩
              omega) (fun x hx1 hx2 hk => by
            by_cases cx : p < (x : Int)
            · exact h5 x cx hx2 hk
            · by_cases ce : (x : Int) = p
              · rw [← ce, Int.toNat_natCast] at c1; exact absurd hk c1
              · intro z
                have c0 : 0 < p := by omega
                have := (anc_up (t := t) (x := (x : Int)) (y := p) ⟨c0, hp.2⟩ (by omega)).mpr ⟨by omega, by omega⟩
                omega)
        refine v_load rfl rfl ⟨rfl, Nat.le_of_ble_eq_true rfl⟩ ?_
        refine v_push rfl ?_
        refine v_ieq rfl (fun h => absurd h (by omega)) (fun _ => ?_)
        refine v_load rfl rfl ⟨rfl, Nat.le_of_ble_eq_true rfl⟩ ?_
        refine v_getp rfl rfl rfl ?_
        refine v_load rfl rfl ⟨rfl, Nat.le_of_ble_eq_true rfl⟩ ?_
        refine v_ald11 rfl rfl ⟨by omega, by show _ < (1600 : Int); omega⟩ ?_
        rw [gk, b2i_f c1]
        refine v_ifne rfl (fun h => absurd h (by decide)) (fun _ => ?_)
        refine v_load rfl rfl ⟨rfl, Nat.le_of_ble_eq_true rfl⟩ ?_
        refine v_getp rfl rfl rfl ?_
        refine v_load rfl rfl ⟨rfl, Nat.le_of_ble_eq_true rfl⟩ ?_
        refine v_ald9 rfl rfl ⟨by omega, by show _ < (1600 : Int); omega⟩ ?_
        rw [g2]
        refine v_store rfl ⟨rfl, Nat.le_of_ble_eq_true rfl, Nat.le_of_ble_eq_true rfl, rfl⟩ rfl ?_
        refine v_goto rfl ?_
        exact ihh
theorem R_isWithinKept {O : Nat → Int} {Kp : Nat → Bool} {Ls : Int → Int} {nT : Nat} {j : Nat} (hj : j < (NT (toks t)).length) (hS : RSt t M) (hK : KPR O Kp Ls nT (NT (toks t)).length M) (k : Q (some (0, b2i (!nkB t Kp j))) M) : v_call L (d + 2) 296 [(2, 77), (0, (j : Int))] M Q := by
  have hl := NT_1216 hS
  have hi : 0 ≤ (j : Int) ∧ (j : Int) < ((NT (toks t)).length : Int) := ⟨by omega, by omega⟩
  have u := NT_upr hi
  have g2 := (TM_nd hS hi).2.1
  refine v_in ?_
  refine v_load rfl rfl ⟨rfl, Nat.le_of_ble_eq_true rfl⟩ ?_
  refine v_getp rfl rfl rfl ?_
  refine v_load rfl rfl ⟨rfl, Nat.le_of_ble_eq_true rfl⟩ ?_
  refine v_ald9 rfl rfl ⟨by omega, by show _ < (1600 : Int); omega⟩ ?_
  rw [g2]
  refine v_store rfl ⟨rfl, Nat.le_of_ble_eq_true rfl, Nat.le_of_ble_eq_true rfl, rfl⟩ rfl ?_
  refine R_wk_loop hj hS hK k 1217 _ (by omega) u.1 u.2 (fun z => ?_) (fun x h1 h2 hk z => ?_)
  · have c0 : 0 < (j : Int) := by omega
    exact (up_in (t := t) ⟨c0, hi.2⟩).2.2.1
  · have := (anc_up (t := t) (x := (x : Int)) (y := (j : Int)) ⟨by omega, hi.2⟩ (by omega)).mpr ⟨by omega, z⟩
    omega
theorem R_whole_loop {O : Nat → Int} {Kp : Nat → Bool} {Ls : Int → Int} {nT : Nat} (hS : RSt t M) (hK : KPR O Kp Ls nT (NT (toks t)).length M) (k : Q (some (0, cI (wkP t Kp) (NT (toks t)).length)) M) : ∀ (n j : Nat), n = (NT (toks t)).length - j → j ≤ (NT (toks t)).length → v_wp L (d + 4) 297 4 [(2, 77), (0, cI (wkP t Kp) j), (0, (j : Int))] [] M Q := by
  intro n
  have hl := NT_1216 hS
  have h44 := (TM_len hS.2.2.1).1
  induction n with
  | zero =>
    intro j hn hj
    have ej : j = (NT (toks t)).length := by omega
    subst ej
    refine v_load rfl rfl ⟨rfl, Nat.le_of_ble_eq_true rfl⟩ ?_
    refine v_load rfl rfl ⟨rfl, Nat.le_of_ble_eq_true rfl⟩ ?_
    refine v_getx rfl rfl (h44) ?_
    refine v_ige rfl (fun _ => ?_) (fun h => absurd h (by omega))
    refine v_load rfl rfl ⟨rfl, Nat.le_of_ble_eq_true rfl⟩ ?_
    refine v_ret rfl rfl ?_
    exact k
  | succ n ih =>
    intro j hn hj
    have ihh := ih (j + 1) (by omega) (by omega)
    have hc := cI_nn (wkP t Kp) j
    have gk := hK.2.1 j (by omega)
    rw [wk_s, show ((j + 1 : Nat) : Int) = (j : Int) + 1 by omega] at ihh
    by_cases c : Kp j = true
    · by_cases c1 : nkB t Kp j = true
      · rw [if_pos (wkP_iff.mpr ⟨c, nkB_iff.mp c1⟩)] at ihh
        refine v_load rfl rfl ⟨rfl, Nat.le_of_ble_eq_true rfl⟩ ?_
        refine v_load rfl rfl ⟨rfl, Nat.le_of_ble_eq_true rfl⟩ ?_
        refine v_getx rfl rfl (h44) ?_
        refine v_ige rfl (fun h => absurd h (by omega)) (fun _ => ?_)
        refine v_load rfl rfl ⟨rfl, Nat.le_of_ble_eq_true rfl⟩ ?_
        refine v_getp rfl rfl rfl ?_
        refine v_load rfl rfl ⟨rfl, Nat.le_of_ble_eq_true rfl⟩ ?_
        refine v_ald11 rfl rfl ⟨by omega, by show _ < (1600 : Int); omega⟩ ?_
        rw [gk, b2i_t c]
        refine v_ifeq rfl (fun h => absurd h (by decide)) (fun _ => ?_)
        refine v_load rfl rfl ⟨rfl, Nat.le_of_ble_eq_true rfl⟩ ?_
        refine v_load rfl rfl ⟨rfl, Nat.le_of_ble_eq_true rfl⟩ ?_
        refine v_callr rfl ⟨Nat.le_of_ble_eq_true rfl, Nat.le_of_ble_eq_true rfl, rfl, Nat.le_of_ble_eq_true rfl, rfl⟩ ?_
        refine R_isWithinKept (by omega) hS hK ?_
        rw [c1]
        refine v_ifne rfl (fun h => absurd h (by decide)) (fun _ => ?_)
        refine v_load rfl rfl ⟨rfl, Nat.le_of_ble_eq_true rfl⟩ ?_
        refine v_push rfl ?_
        refine v_add rfl (by omega) ?_
        refine v_goto rfl ?_
        refine v_store rfl ⟨rfl, Nat.le_of_ble_eq_true rfl, Nat.le_of_ble_eq_true rfl, rfl⟩ rfl ?_
        refine v_iinc rfl rfl rfl (by omega) rfl ?_
        refine v_goto rfl ?_
        exact ihh
      · rw [if_neg (fun z => c1 (nkB_iff.mpr (wkP_iff.mp z).2)), Int.add_zero] at ihh
        refine v_load rfl rfl ⟨rfl, Nat.le_of_ble_eq_true rfl⟩ ?_
        refine v_load rfl rfl ⟨rfl, Nat.le_of_ble_eq_true rfl⟩ ?_
        refine v_getx rfl rfl (h44) ?_
        refine v_ige rfl (fun h => absurd h (by omega)) (fun _ => ?_)
        refine v_load rfl rfl ⟨rfl, Nat.le_of_ble_eq_true rfl⟩ ?_
        refine v_getp rfl rfl rfl ?_
        refine v_load rfl rfl ⟨rfl, Nat.le_of_ble_eq_true rfl⟩ ?_
        refine v_ald11 rfl rfl ⟨by omega, by show _ < (1600 : Int); omega⟩ ?_
        rw [gk, b2i_t c]
        refine v_ifeq rfl (fun h => absurd h (by decide)) (fun _ => ?_)
        refine v_load rfl rfl ⟨rfl, Nat.le_of_ble_eq_true rfl⟩ ?_
        refine v_load rfl rfl ⟨rfl, Nat.le_of_ble_eq_true rfl⟩ ?_
        refine v_callr rfl ⟨Nat.le_of_ble_eq_true rfl, Nat.le_of_ble_eq_true rfl, rfl, Nat.le_of_ble_eq_true rfl, rfl⟩ ?_
        refine R_isWithinKept (by omega) hS hK ?_
        rw [Bool.eq_false_iff.mpr c1]
        refine v_ifne rfl (fun _ => ?_) (fun h => absurd h (by decide))
        refine v_load rfl rfl ⟨rfl, Nat.le_of_ble_eq_true rfl⟩ ?_
        refine v_store rfl ⟨rfl, Nat.le_of_ble_eq_true rfl, Nat.le_of_ble_eq_true rfl, rfl⟩ rfl ?_
        refine v_iinc rfl rfl rfl (by omega) rfl ?_
        refine v_goto rfl ?_
        exact ihh
    · rw [if_neg (fun z => c (wkP_iff.mp z).1), Int.add_zero] at ihh
      refine v_load rfl rfl ⟨rfl, Nat.le_of_ble_eq_true rfl⟩ ?_
      refine v_load rfl rfl ⟨rfl, Nat.le_of_ble_eq_true rfl⟩ ?_
      refine v_getx rfl rfl (h44) ?_
      refine v_ige rfl (fun h => absurd h (by omega)) (fun _ => ?_)
      refine v_load rfl rfl ⟨rfl, Nat.le_of_ble_eq_true rfl⟩ ?_
      refine v_getp rfl rfl rfl ?_
      refine v_load rfl rfl ⟨rfl, Nat.le_of_ble_eq_true rfl⟩ ?_
      refine v_ald11 rfl rfl ⟨by omega, by show _ < (1600 : Int); omega⟩ ?_
      rw [gk, b2i_f c]
      refine v_ifeq rfl (fun _ => ?_) (fun h => absurd h (by decide))
      refine v_load rfl rfl ⟨rfl, Nat.le_of_ble_eq_true rfl⟩ ?_
      refine v_store rfl ⟨rfl, Nat.le_of_ble_eq_true rfl, Nat.le_of_ble_eq_true rfl, rfl⟩ rfl ?_
      refine v_iinc rfl rfl rfl (by omega) rfl ?_
      refine v_goto rfl ?_
      exact ihh
theorem R_whole (hC : RS s M) (k : Q (some (0, wholeQ s)) M) : v_call L (d + 10) 297 [(2, 77)] M Q := by
  refine v_in ?_
  refine v_push rfl ?_
  refine v_store rfl ⟨rfl, Nat.le_of_ble_eq_true rfl, Nat.le_of_ble_eq_true rfl, rfl⟩ rfl ?_
  refine v_push rfl ?_
  refine v_store rfl ⟨rfl, Nat.le_of_ble_eq_true rfl, Nat.le_of_ble_eq_true rfl, rfl⟩ rfl ?_
  exact R_whole_loop (d := d + 6) hC.1 hC.2.2.2.2.1 k _ 0 rfl (Nat.zero_le _)
/-- share -/
noncomputable def shareQ (s : zA) : Int := if s.2.2.2.2 = 0 then -2 else (100 * s.2.2.2.1).tdiv s.2.2.2.2
theorem sh_rng {a b : Int} (h : 0 ≤ a ∧ a ≤ b ∧ 0 < b) : 0 ≤ (100 * a).tdiv b ∧ (100 * a).tdiv b ≤ 100 := by
  rw [Int.tdiv_eq_ediv_of_nonneg (by omega)]
  exact ⟨Int.ediv_nonneg (by omega) (by omega), Int.ediv_le_of_le_mul h.2.2 (by omega)⟩
theorem S_share (hC : CS s M) (hB : BS s n) (hn : n ≤ 600) (k : Q (some (0, shareQ s)) M) : v_call L (d + 10) 166 [(2, 1)] M Q := by
  obtain ⟨-, -, -, -, -, -, -, h8, h9⟩ := id hC
  obtain ⟨-, -, -, -, -, -, -, b1, b2, b3⟩ := id hB
  unfold shareQ at k
  refine v_in ?_
  by_cases c : s.2.2.2.2 = 0
  · rw [if_pos c] at k
    refine v_load rfl rfl ⟨rfl, Nat.le_of_ble_eq_true rfl⟩ ?_
    refine v_getl rfl rfl ?_
    rw [h9, c]
    refine v_lcon rfl ?_
    refine v_lcmp rfl ?_
    refine v_ifgt rfl (fun h => absurd h (by decide)) (fun _ => ?_)
    refine v_push rfl ?_
    refine v_goto rfl ?_
    refine v_ret rfl rfl ?_
    exact k
  · rw [if_neg c] at k
    have ec : z_cmp s.2.2.2.2 0 = 1 := if_pos (by omega)
    have r := sh_rng (a := s.2.2.2.1) (b := s.2.2.2.2) ⟨b1, b2, by omega⟩
    have hz1 : z_lalu 2 s.2.2.2.1 100 = some (100 * s.2.2.2.1) := by
      show some (z_W _) = _
      rw [z_W_id ⟨by omega, by omega⟩, Int.mul_comm]
    have hz2 : z_lalu 3 (100 * s.2.2.2.1) s.2.2.2.2 = some ((100 * s.2.2.2.1).tdiv s.2.2.2.2) := by
      show (if s.2.2.2.2 = 0 then none else some (z_W _)) = _
      rw [if_neg c, z_W_id ⟨by omega, by omega⟩]
    refine v_load rfl rfl ⟨rfl, Nat.le_of_ble_eq_true rfl⟩ ?_
    refine v_getl rfl rfl ?_
    rw [h9]
    refine v_lcon rfl ?_
    refine v_lcmp rfl ?_
    rw [ec]
    refine v_ifgt rfl (fun _ => ?_) (fun h => absurd h (by decide))
    refine v_load rfl rfl ⟨rfl, Nat.le_of_ble_eq_true rfl⟩ ?_
    refine v_getl rfl rfl ?_
    rw [h8]
    refine v_lcon rfl ?_
    refine v_lalu rfl (by decide) hz1 ?_
    refine v_load rfl rfl ⟨rfl, Nat.le_of_ble_eq_true rfl⟩ ?_
    refine v_getl rfl rfl ?_
    rw [h9]
    refine v_lalu rfl (by decide) hz2 ?_
    refine v_l2i rfl ?_
    rw [z_w_id ⟨by omega, by omega⟩]
    refine v_ret rfl rfl ?_
    exact k
theorem R_share (hC : RS s M) (hB : BS s n) (hn : n ≤ 600) (k : Q (some (0, shareQ s)) M) : v_call L (d + 10) 298 [(2, 77)] M Q := by
  obtain ⟨-, -, -, -, -, h8, h9⟩ := id hC
  obtain ⟨-, -, -, -, -, -, -, b1, b2, b3⟩ := id hB
  unfold shareQ at k
  refine v_in ?_
  by_cases c : s.2.2.2.2 = 0
  · rw [if_pos c] at k
    refine v_load rfl rfl ⟨rfl, Nat.le_of_ble_eq_true rfl⟩ ?_
    refine v_getx rfl rfl (h9) ?_
    refine v_ifne rfl (fun h => absurd h (fun z => z c)) (fun _ => ?_)
    refine v_push rfl ?_
    refine v_goto rfl ?_
    refine v_ret rfl rfl ?_
    exact k
  · rw [if_neg c] at k
    have r := sh_rng (a := s.2.2.2.1) (b := s.2.2.2.2) ⟨b1, b2, by omega⟩
    have hz2 : z_alu 6 (100 * s.2.2.2.1) s.2.2.2.2 = some ((100 * s.2.2.2.1).tdiv s.2.2.2.2) := by
      show (if s.2.2.2.2 = 0 then none else some (z_w _)) = _
      rw [if_neg c, z_w_id ⟨by omega, by omega⟩]
    refine v_load rfl rfl ⟨rfl, Nat.le_of_ble_eq_true rfl⟩ ?_
    refine v_getx rfl rfl (h9) ?_
    refine v_ifne rfl (fun _ => ?_) (fun h => absurd h (c))
    refine v_push rfl ?_
    refine v_load rfl rfl ⟨rfl, Nat.le_of_ble_eq_true rfl⟩ ?_
    refine v_getx rfl rfl (h8) ?_
    refine v_mul rfl (by omega) ?_
    refine v_load rfl rfl ⟨rfl, Nat.le_of_ble_eq_true rfl⟩ ?_
    refine v_getx rfl rfl (h9) ?_
    refine v_alu rfl hz2 ?_
    refine v_ret rfl rfl ?_
    exact k
end QF
