/-! QUESTIONS: line, column, begin, begun, level -/
section Q4
variable {L d n : Nat} {M : zM} {Q : Option zV → zM → Prop} {s : zA} {t : List Int}
theorem lnB_rng {i : Int} : -1 ≤ lnB t i ∧ lnB t i ≤ (t.length : Int) ∧ (lnB t i = -1 ↔ ¬ (0 ≤ i ∧ i < ((lns t).length : Int))) := by
  unfold lnB
  by_cases c : 0 ≤ i ∧ i < ((lns t).length : Int)
  · rw [if_pos c]
    have := lns_rng t t.length i.toNat (show i.toNat < (lns t).length by omega)
    have e : (lnsF t t.length).getD i.toNat 0 = (lns t).getD i.toNat 0 := rfl
    rw [e] at this
    exact ⟨by omega, by omega, ⟨fun z => by omega, fun z => absurd c z⟩⟩
  · rw [if_neg c]
    exact ⟨by omega, by omega, ⟨fun _ => c, fun _ => rfl⟩⟩
theorem RLN_at {i : Int} (hS : RSt t M) (hi : 0 ≤ i ∧ i < ((lns t).length : Int)) : M 115 i = lnB t i := by
  have := hS.2.2.2.1.2 i.toNat (by omega)
  rw [show ((i.toNat : Nat) : Int) = i by omega] at this
  rw [this]; unfold lnB; rw [if_pos hi]
theorem lns_301 (hl : t.length ≤ 300) : 1 ≤ (lns t).length ∧ (lns t).length ≤ 301 := by
  have h := lnsF_len t t.length
  have h2 := nlF_nn t t.length
  have e : (lnsF t t.length).length = (lns t).length := rfl
  omega
theorem nlF_ln {i : Nat} (hi : i ≤ t.length) : 0 ≤ nlF t i ∧ nlF t i < ((lns t).length : Int) := by
  have h := lnsF_len t t.length
  have h2 := nlF_nn t i
  have h3 := nlF_mono t hi
  have e : (lnsF t t.length).length = (lns t).length := rfl
  omega
noncomputable def lineQ (s : zA) (p : Int) : Int := if 0 ≤ p ∧ p ≤ (s.1.1.length : Int) then nlF s.1.1 p.toNat else -1
theorem S_line {p : Int} (hC : CS s M) (k : Q (some (0, lineQ s p)) M) : v_call L (d + 10) 150 [(2, 1), (0, p)] M Q := by
  have h1 := hC.1
  unfold lineQ at k
  refine v_in ?_
  by_cases c : 0 ≤ p ∧ p ≤ (s.1.1.length : Int)
  · rw [if_pos c] at k
    refine v_load rfl rfl ⟨rfl, Nat.le_of_ble_eq_true rfl⟩ ?_
    refine v_iflt rfl (fun h => absurd h (by omega)) (fun _ => ?_)
    refine v_load rfl rfl ⟨rfl, Nat.le_of_ble_eq_true rfl⟩ ?_
    refine v_load rfl rfl ⟨rfl, Nat.le_of_ble_eq_true rfl⟩ ?_
    refine v_getp rfl rfl rfl ?_
    refine v_callr rfl ⟨Nat.le_of_ble_eq_true rfl, Nat.le_of_ble_eq_true rfl, rfl, Nat.le_of_ble_eq_true rfl, rfl⟩ ?_
    refine S_sizeT z_B2 h1 ?_
    refine v_ile rfl (fun _ => ?_) (fun h => absurd h (by omega))
    refine v_load rfl rfl ⟨rfl, Nat.le_of_ble_eq_true rfl⟩ ?_
    refine v_getp rfl rfl rfl ?_
    refine v_load rfl rfl ⟨rfl, Nat.le_of_ble_eq_true rfl⟩ ?_
    refine v_callr rfl ⟨Nat.le_of_ble_eq_true rfl, Nat.le_of_ble_eq_true rfl, rfl, Nat.le_of_ble_eq_true rfl, rfl⟩ ?_
    refine S_lineOf z_B2 h1 c ?_
    refine v_ret rfl rfl ?_
    exact k
  · rw [if_neg c] at k
    refine v_load rfl rfl ⟨rfl, Nat.le_of_ble_eq_true rfl⟩ ?_
    refine v_iflt rfl (fun c1 => ?_) (fun c1 => ?_)
    · refine v_push rfl ?_
      refine v_goto rfl ?_
      refine v_ret rfl rfl ?_
      first | exact k | (exfalso; omega)
    · refine v_load rfl rfl ⟨rfl, Nat.le_of_ble_eq_true rfl⟩ ?_
      refine v_load rfl rfl ⟨rfl, Nat.le_of_ble_eq_true rfl⟩ ?_
      refine v_getp rfl rfl rfl ?_
      refine v_callr rfl ⟨Nat.le_of_ble_eq_true rfl, Nat.le_of_ble_eq_true rfl, rfl, Nat.le_of_ble_eq_true rfl, rfl⟩ ?_
      refine S_sizeT z_B2 h1 ?_
      refine v_ile rfl (fun c2 => ?_) (fun c2 => ?_)
      · first | exact k | (exfalso; omega)
      · refine v_push rfl ?_
        refine v_goto rfl ?_
        refine v_ret rfl rfl ?_
        first | exact k | (exfalso; omega)
theorem R_line {p : Int} (hC : RS s M) (k : Q (some (0, lineQ s p)) M) : v_call L (d + 10) 278 [(2, 77), (0, p)] M Q := by
  have hS := hC.1
  have h4 := hS.1.1
  have hl := hS.1.2.1
  unfold lineQ at k
  refine v_in ?_
  by_cases c : 0 ≤ p ∧ p ≤ (s.1.1.length : Int)
  · rw [if_pos c] at k
    refine v_load rfl rfl ⟨rfl, Nat.le_of_ble_eq_true rfl⟩ ?_
    refine v_push rfl ?_
    refine v_load rfl rfl ⟨rfl, Nat.le_of_ble_eq_true rfl⟩ ?_
    refine v_getx rfl rfl (h4) ?_
    refine v_callr rfl ⟨Nat.le_of_ble_eq_true rfl, Nat.le_of_ble_eq_true rfl, rfl, Nat.le_of_ble_eq_true rfl, rfl⟩ ?_
    refine R_in ?_
    rw [b2i_t (decide_eq_true c)]
    refine v_ifeq rfl (fun h => absurd h (by decide)) (fun _ => ?_)
    refine v_load rfl rfl ⟨rfl, Nat.le_of_ble_eq_true rfl⟩ ?_
    refine v_load rfl rfl ⟨rfl, Nat.le_of_ble_eq_true rfl⟩ ?_
    refine v_callr rfl ⟨Nat.le_of_ble_eq_true rfl, Nat.le_of_ble_eq_true rfl, rfl, Nat.le_of_ble_eq_true rfl, rfl⟩ ?_
    refine R_lineOf hS.2.2.2.1 hl c ?_
    refine v_goto rfl ?_
    refine v_ret rfl rfl ?_
    exact k
  · rw [if_neg c] at k
    refine v_load rfl rfl ⟨rfl, Nat.le_of_ble_eq_true rfl⟩ ?_
    refine v_push rfl ?_
    refine v_load rfl rfl ⟨rfl, Nat.le_of_ble_eq_true rfl⟩ ?_
    refine v_getx rfl rfl (h4) ?_
    refine v_callr rfl ⟨Nat.le_of_ble_eq_true rfl, Nat.le_of_ble_eq_true rfl, rfl, Nat.le_of_ble_eq_true rfl, rfl⟩ ?_
    refine R_in ?_
    rw [b2i_f (by simpa using c)]
    refine v_ifeq rfl (fun _ => ?_) (fun h => absurd h (by decide))
    refine v_push rfl ?_
    refine v_ret rfl rfl ?_
    exact k
noncomputable def colQ (s : zA) (p : Int) : Int := if 0 ≤ p ∧ p ≤ (s.1.1.length : Int) then p - lnB s.1.1 (nlF s.1.1 p.toNat) else -1
theorem S_column {p : Int} (hC : CS s M) (hB : BS s n) (k : Q (some (0, colQ s p)) M) : v_call L (d + 10) 151 [(2, 1), (0, p)] M Q := by
  have h1 := hC.1
  have hl := hB.1
  unfold colQ at k
  refine v_in ?_
  by_cases c : 0 ≤ p ∧ p ≤ (s.1.1.length : Int)
  · rw [if_pos c] at k
    have r := lnB_rng (t := s.1.1) (i := nlF s.1.1 p.toNat)
    refine v_load rfl rfl ⟨rfl, Nat.le_of_ble_eq_true rfl⟩ ?_
    refine v_iflt rfl (fun h => absurd h (by omega)) (fun _ => ?_)
    refine v_load rfl rfl ⟨rfl, Nat.le_of_ble_eq_true rfl⟩ ?_
    refine v_load rfl rfl ⟨rfl, Nat.le_of_ble_eq_true rfl⟩ ?_
    refine v_getp rfl rfl rfl ?_
    refine v_callr rfl ⟨Nat.le_of_ble_eq_true rfl, Nat.le_of_ble_eq_true rfl, rfl, Nat.le_of_ble_eq_true rfl, rfl⟩ ?_
    refine S_sizeT z_B2 h1 ?_
    refine v_ile rfl (fun _ => ?_) (fun h => absurd h (by omega))
    refine v_load rfl rfl ⟨rfl, Nat.le_of_ble_eq_true rfl⟩ ?_
    refine v_load rfl rfl ⟨rfl, Nat.le_of_ble_eq_true rfl⟩ ?_
    refine v_getp rfl rfl rfl ?_
    refine v_load rfl rfl ⟨rfl, Nat.le_of_ble_eq_true rfl⟩ ?_
    refine v_getp rfl rfl rfl ?_
    refine v_load rfl rfl ⟨rfl, Nat.le_of_ble_eq_true rfl⟩ ?_
    refine v_callr rfl ⟨Nat.le_of_ble_eq_true rfl, Nat.le_of_ble_eq_true rfl, rfl, Nat.le_of_ble_eq_true rfl, rfl⟩ ?_
    refine S_lineOf z_B2 h1 c ?_
    refine v_callr rfl ⟨Nat.le_of_ble_eq_true rfl, Nat.le_of_ble_eq_true rfl, rfl, Nat.le_of_ble_eq_true rfl, rfl⟩ ?_
    refine S_lineBegin z_B2 h1 ?_
    refine v_sub rfl (by omega) ?_
    refine v_ret rfl rfl ?_
    exact k
  · rw [if_neg c] at k
    refine v_load rfl rfl ⟨rfl, Nat.le_of_ble_eq_true rfl⟩ ?_
    refine v_iflt rfl (fun c3 => ?_) (fun c3 => ?_)
    · refine v_push rfl ?_
      refine v_goto rfl ?_
      refine v_ret rfl rfl ?_
      first | exact k | (exfalso; omega)
    · refine v_load rfl rfl ⟨rfl, Nat.le_of_ble_eq_true rfl⟩ ?_
      refine v_load rfl rfl ⟨rfl, Nat.le_of_ble_eq_true rfl⟩ ?_
      refine v_getp rfl rfl rfl ?_
      refine v_callr rfl ⟨Nat.le_of_ble_eq_true rfl, Nat.le_of_ble_eq_true rfl, rfl, Nat.le_of_ble_eq_true rfl, rfl⟩ ?_
      refine S_sizeT z_B2 h1 ?_
      refine v_ile rfl (fun c4 => ?_) (fun c4 => ?_)
      · first | exact k | (exfalso; omega)
      · refine v_push rfl ?_
        refine v_goto rfl ?_
        refine v_ret rfl rfl ?_
        first | exact k | (exfalso; omega)
theorem R_column {p : Int} (hC : RS s M) (k : Q (some (0, colQ s p)) M) : v_call L (d + 10) 279 [(2, 77), (0, p)] M Q := by
  have hS := hC.1
  have h4 := hS.1.1
  have hl := hS.1.2.1
  have h301 := lns_301 hl
  unfold colQ at k
  refine v_in ?_
  by_cases c : 0 ≤ p ∧ p ≤ (s.1.1.length : Int)
  · rw [if_pos c] at k
    have q := nlF_ln (t := s.1.1) (i := p.toNat) (by omega)
    have g := RLN_at hS q
    have r := lnB_rng (t := s.1.1) (i := nlF s.1.1 p.toNat)
    refine v_load rfl rfl ⟨rfl, Nat.le_of_ble_eq_true rfl⟩ ?_
    refine v_push rfl ?_
    refine v_load rfl rfl ⟨rfl, Nat.le_of_ble_eq_true rfl⟩ ?_
    refine v_getx rfl rfl (h4) ?_
    refine v_callr rfl ⟨Nat.le_of_ble_eq_true rfl, Nat.le_of_ble_eq_true rfl, rfl, Nat.le_of_ble_eq_true rfl, rfl⟩ ?_
    refine R_in ?_
    rw [b2i_t (decide_eq_true c)]
    refine v_ifeq rfl (fun h => absurd h (by decide)) (fun _ => ?_)
    refine v_load rfl rfl ⟨rfl, Nat.le_of_ble_eq_true rfl⟩ ?_
    refine v_load rfl rfl ⟨rfl, Nat.le_of_ble_eq_true rfl⟩ ?_
    refine v_getp rfl rfl rfl ?_
    refine v_load rfl rfl ⟨rfl, Nat.le_of_ble_eq_true rfl⟩ ?_
    refine v_load rfl rfl ⟨rfl, Nat.le_of_ble_eq_true rfl⟩ ?_
    refine v_callr rfl ⟨Nat.le_of_ble_eq_true rfl, Nat.le_of_ble_eq_true rfl, rfl, Nat.le_of_ble_eq_true rfl, rfl⟩ ?_
    refine R_lineOf hS.2.2.2.1 hl c ?_
    refine v_ald9 rfl rfl ⟨by omega, by show _ < (301 : Int); omega⟩ ?_
    rw [g]
    refine v_sub rfl (by omega) ?_
    refine v_goto rfl ?_
    refine v_ret rfl rfl ?_
    exact k
  · rw [if_neg c] at k
    refine v_load rfl rfl ⟨rfl, Nat.le_of_ble_eq_true rfl⟩ ?_
    refine v_push rfl ?_
    refine v_load rfl rfl ⟨rfl, Nat.le_of_ble_eq_true rfl⟩ ?_
    refine v_getx rfl rfl (h4) ?_
    refine v_callr rfl ⟨Nat.le_of_ble_eq_true rfl, Nat.le_of_ble_eq_true rfl, rfl, Nat.le_of_ble_eq_true rfl, rfl⟩ ?_
    refine R_in ?_
    rw [b2i_f (by simpa using c)]
    refine v_ifeq rfl (fun _ => ?_) (fun h => absurd h (by decide))
    refine v_push rfl ?_
    refine v_ret rfl rfl ?_
    exact k
theorem S_begin {i : Int} (hC : CS s M) (k : Q (some (0, lnB s.1.1 i)) M) : v_call L (d + 10) 152 [(2, 1), (0, i)] M Q := by
  refine v_in ?_
  refine v_load rfl rfl ⟨rfl, Nat.le_of_ble_eq_true rfl⟩ ?_
  refine v_getp rfl rfl rfl ?_
  refine v_load rfl rfl ⟨rfl, Nat.le_of_ble_eq_true rfl⟩ ?_
  refine v_callr rfl ⟨Nat.le_of_ble_eq_true rfl, Nat.le_of_ble_eq_true rfl, rfl, Nat.le_of_ble_eq_true rfl, rfl⟩ ?_
  refine S_lineBegin z_B2 hC.1 ?_
  refine v_ret rfl rfl ?_
  exact k
theorem R_isLine {i : Int} (hS : RSt t M) (k : Q (some (0, b2i (decide (0 ≤ i ∧ i ≤ ((lns t).length : Int) - 1)))) M) : v_call L (d + 1) 280 [(2, 77), (0, i)] M Q := by
  have h301 := lns_301 (t := t) hS.1.2.1
  refine v_in ?_
  refine v_load rfl rfl ⟨rfl, Nat.le_of_ble_eq_true rfl⟩ ?_
  refine v_push rfl ?_
  refine v_load rfl rfl ⟨rfl, Nat.le_of_ble_eq_true rfl⟩ ?_
  refine v_getx rfl rfl (hS.2.2.2.1.1) ?_
  refine v_push rfl ?_
  refine v_sub rfl (by omega) ?_
  refine v_callr rfl ⟨Nat.le_of_ble_eq_true rfl, Nat.le_of_ble_eq_true rfl, rfl, Nat.le_of_ble_eq_true rfl, rfl⟩ ?_
  refine R_in ?_
  first | refine v_ret rfl rfl ?_ | refine v_retz rfl (b2i_01 _) ?_ | refine v_retz rfl (by omega) ?_
  exact k
theorem R_begin {i : Int} (hC : RS s M) (k : Q (some (0, lnB s.1.1 i)) M) : v_call L (d + 10) 281 [(2, 77), (0, i)] M Q := by
  have hS := hC.1
  have h301 := lns_301 (t := s.1.1) hS.1.2.1
  refine v_in ?_
  by_cases c : 0 ≤ i ∧ i ≤ ((lns s.1.1).length : Int) - 1
  · have g := RLN_at hS (i := i) ⟨c.1, by omega⟩
    refine v_load rfl rfl ⟨rfl, Nat.le_of_ble_eq_true rfl⟩ ?_
    refine v_load rfl rfl ⟨rfl, Nat.le_of_ble_eq_true rfl⟩ ?_
    refine v_callr rfl ⟨Nat.le_of_ble_eq_true rfl, Nat.le_of_ble_eq_true rfl, rfl, Nat.le_of_ble_eq_true rfl, rfl⟩ ?_
    refine R_isLine hS ?_
    rw [b2i_t (decide_eq_true c)]
    refine v_ifeq rfl (fun h => absurd h (by decide)) (fun _ => ?_)
    refine v_load rfl rfl ⟨rfl, Nat.le_of_ble_eq_true rfl⟩ ?_
    refine v_getp rfl rfl rfl ?_
    refine v_load rfl rfl ⟨rfl, Nat.le_of_ble_eq_true rfl⟩ ?_
    refine v_ald9 rfl rfl ⟨by omega, by show _ < (301 : Int); omega⟩ ?_
    rw [g]
    refine v_goto rfl ?_
    refine v_ret rfl rfl ?_
    exact k
  · unfold lnB at k
    rw [if_neg (by omega)] at k
    refine v_load rfl rfl ⟨rfl, Nat.le_of_ble_eq_true rfl⟩ ?_
    refine v_load rfl rfl ⟨rfl, Nat.le_of_ble_eq_true rfl⟩ ?_
    refine v_callr rfl ⟨Nat.le_of_ble_eq_true rfl, Nat.le_of_ble_eq_true rfl, rfl, Nat.le_of_ble_eq_true rfl, rfl⟩ ?_
    refine R_isLine hS ?_
    rw [b2i_f (by simpa using c)]
    refine v_ifeq rfl (fun _ => ?_) (fun h => absurd h (by decide))
    refine v_push rfl ?_
    refine v_ret rfl rfl ?_
    exact k
/-- begun -/
noncomputable def bgP (t : List Int) (i : Int) (j : Nat) : Bool := decide (nlF t (pF t (j : Int)).toNat = i)
noncomputable def begunQ (s : zA) (i : Int) : Int := if 0 ≤ i ∧ i < ((lns s.1.1).length : Int) then cI (bgP s.1.1 i) (NT (toks s.1.1)).length else -1
theorem bg_iff {i : Int} {p : Int} (hi : 0 ≤ i ∧ i < ((lns t).length : Int)) (hp : 0 ≤ p ∧ p ≤ (t.length : Int)) : (lnB t i ≤ p ∧ p < (if lnB t (i + 1) = -1 then (t.length : Int) + 1 else lnB t (i + 1))) ↔ nlF t p.toNat = i := by
  have q := nlF_ln (t := t) (i := p.toNat) (by omega)
  have a1 := lns_le t p.toNat t.length i.toNat (show i.toNat < (lns t).length by omega)
  have e1 : (lnsF t t.length).getD i.toNat 0 = lnB t i := by unfold lnB; rw [if_pos hi]; rfl
  rw [e1, show ((p.toNat : Nat) : Int) = p by omega, show ((i.toNat : Nat) : Int) = i by omega] at a1
  by_cases c : i + 1 < ((lns t).length : Int)
  · have a2 := lns_le t p.toNat t.length (i + 1).toNat (show (i + 1).toNat < (lns t).length by omega)
    have e2 : (lnsF t t.length).getD (i + 1).toNat 0 = lnB t (i + 1) := by unfold lnB; rw [if_pos ⟨by omega, c⟩]; rfl
    rw [e2, show ((p.toNat : Nat) : Int) = p by omega, show (((i + 1).toNat : Nat) : Int) = i + 1 by omega] at a2
    have r := lnB_rng (t := t) (i := i + 1)
    rw [if_neg (fun z => (r.2.2.mp z) ⟨by omega, c⟩)]
    omega
  · have r := lnB_rng (t := t) (i := i + 1)
    rw [if_pos (r.2.2.mpr (by omega))]
    omega
theorem S_begun_loop {i b e b3 : Int} {w : zV} (hR : RT (toks t) M) (hN : TN (toks t) M) (hl : t.length ≤ 300) (hi : 0 ≤ i ∧ i < ((lns t).length : Int)) (hb : b = lnB t i) (he : e = if lnB t (i + 1) = -1 then (t.length : Int) + 1 else lnB t (i + 1)) (k : Q (some (0, cI (bgP t i) (NT (toks t)).length)) M) : ∀ (n j : Nat) (w : zV), n = (NT (toks t)).length - j → j ≤ (NT (toks t)).length → v_wp L (d + 3) 153 53 [(2, 1), (0, i), (0, b), (0, b3), (0, e), (0, cI (bgP t i) j), (0, (j : Int)), w] [] M Q := by
  intro n
  have hlN : (NT (toks t)).length ≤ 1216 := hN.1.2.1
  induction n with
  | zero =>
    intro j w hn hj
    have ej : j = (NT (toks t)).length := by omega
    subst ej
    refine v_load rfl rfl ⟨rfl, Nat.le_of_ble_eq_true rfl⟩ ?_
    refine v_load rfl rfl ⟨rfl, Nat.le_of_ble_eq_true rfl⟩ ?_
    refine v_getp rfl rfl rfl ?_
    refine v_callr rfl ⟨Nat.le_of_ble_eq_true rfl, Nat.le_of_ble_eq_true rfl, rfl, Nat.le_of_ble_eq_true rfl, rfl⟩ ?_
    refine S_ndSize hN.1 ?_
    refine v_ige rfl (fun _ => ?_) (fun h => absurd h (by omega))
    refine v_load rfl rfl ⟨rfl, Nat.le_of_ble_eq_true rfl⟩ ?_
    refine v_ret rfl rfl ?_
    exact k
  | succ n ih =>
    intro j w hn hj
    have r := pF_rng t (j : Int)
    have hi2 := bg_iff hi r
    rw [← hb, ← he] at hi2
    have hc := cI_nn (bgP t i) j
    have ihh := ih (j + 1) (0, pF t (j : Int)) (by omega) (by omega)
    rw [show cI (bgP t i) (j + 1) = cI (bgP t i) j + (if nlF t (pF t (j : Int)).toNat = i then 1 else 0) by show cI (bgP t i) j + _ = _; unfold bgP; simp, show ((j + 1 : Nat) : Int) = (j : Int) + 1 by omega] at ihh
    by_cases c : nlF t (pF t (j : Int)).toNat = i
    · have c' := hi2.mpr c
      rw [if_pos c] at ihh
      refine v_load rfl rfl ⟨rfl, Nat.le_of_ble_eq_true rfl⟩ ?_
      refine v_load rfl rfl ⟨rfl, Nat.le_of_ble_eq_true rfl⟩ ?_
      refine v_getp rfl rfl rfl ?_
      refine v_callr rfl ⟨Nat.le_of_ble_eq_true rfl, Nat.le_of_ble_eq_true rfl, rfl, Nat.le_of_ble_eq_true rfl, rfl⟩ ?_
      refine S_ndSize hN.1 ?_
      refine v_ige rfl (fun h => absurd h (by omega)) (fun _ => ?_)
      refine v_load rfl rfl ⟨rfl, Nat.le_of_ble_eq_true rfl⟩ ?_
      refine v_getp rfl rfl rfl ?_
      refine v_load rfl rfl ⟨rfl, Nat.le_of_ble_eq_true rfl⟩ ?_
      refine v_callr rfl ⟨Nat.le_of_ble_eq_true rfl, Nat.le_of_ble_eq_true rfl, rfl, Nat.le_of_ble_eq_true rfl, rfl⟩ ?_
      refine S_firstOf hR hN hl ?_
      refine v_store rfl ⟨rfl, Nat.le_of_ble_eq_true rfl, Nat.le_of_ble_eq_true rfl, rfl⟩ rfl ?_
      refine v_load rfl rfl ⟨rfl, Nat.le_of_ble_eq_true rfl⟩ ?_
      refine v_load rfl rfl ⟨rfl, Nat.le_of_ble_eq_true rfl⟩ ?_
      refine v_ilt rfl (fun h => absurd h (by omega)) (fun _ => ?_)
      refine v_load rfl rfl ⟨rfl, Nat.le_of_ble_eq_true rfl⟩ ?_
      refine v_load rfl rfl ⟨rfl, Nat.le_of_ble_eq_true rfl⟩ ?_
      refine v_ige rfl (fun h => absurd h (by omega)) (fun _ => ?_)
      refine v_iinc rfl rfl rfl (by omega) rfl ?_
      refine v_iinc rfl rfl rfl (by omega) rfl ?_
      refine v_goto rfl ?_
      exact ihh
    · have c' := fun z => c (hi2.mp z)
      rw [if_neg c, Int.add_zero] at ihh
      refine v_load rfl rfl ⟨rfl, Nat.le_of_ble_eq_true rfl⟩ ?_
      refine v_load rfl rfl ⟨rfl, Nat.le_of_ble_eq_true rfl⟩ ?_
      refine v_getp rfl rfl rfl ?_
      refine v_callr rfl ⟨Nat.le_of_ble_eq_true rfl, Nat.le_of_ble_eq_true rfl, rfl, Nat.le_of_ble_eq_true rfl, rfl⟩ ?_
      refine S_ndSize hN.1 ?_
      refine v_ige rfl (fun h => absurd h (by omega)) (fun _ => ?_)
      refine v_load rfl rfl ⟨rfl, Nat.le_of_ble_eq_true rfl⟩ ?_
      refine v_getp rfl rfl rfl ?_
      refine v_load rfl rfl ⟨rfl, Nat.le_of_ble_eq_true rfl⟩ ?_
      refine v_callr rfl ⟨Nat.le_of_ble_eq_true rfl, Nat.le_of_ble_eq_true rfl, rfl, Nat.le_of_ble_eq_true rfl, rfl⟩ ?_
      refine S_firstOf hR hN hl ?_
      refine v_store rfl ⟨rfl, Nat.le_of_ble_eq_true rfl, Nat.le_of_ble_eq_true rfl, rfl⟩ rfl ?_
      refine v_load rfl rfl ⟨rfl, Nat.le_of_ble_eq_true rfl⟩ ?_
      refine v_load rfl rfl ⟨rfl, Nat.le_of_ble_eq_true rfl⟩ ?_
      refine v_ilt rfl (fun c1 => ?_) (fun c1 => ?_)
      · refine v_iinc rfl rfl rfl (by omega) rfl ?_
        refine v_goto rfl ?_
        exact ihh
      · refine v_load rfl rfl ⟨rfl, Nat.le_of_ble_eq_true rfl⟩ ?_
        refine v_load rfl rfl ⟨rfl, Nat.le_of_ble_eq_true rfl⟩ ?_
        refine v_ige rfl (fun _ => ?_) (fun h => absurd h (fun z => c' ⟨by omega, z⟩))
        refine v_iinc rfl rfl rfl (by omega) rfl ?_
        refine v_goto rfl ?_
        exact ihh
theorem S_begun {i : Int} (hC : CS s M) (hB : BS s n) (hi32 : z_i32 i) (k : Q (some (0, begunQ s i)) M) : v_call L (d + 10) 153 [(2, 1), (0, i)] M Q := by
  obtain ⟨h1, -, -, -, h5, h6, -⟩ := id hC
  have hl := hB.1
  have h301 := lns_301 hl
  have r := lnB_rng (t := s.1.1) (i := i)
  have r2 := lnB_rng (t := s.1.1) (i := i + 1)
  unfold begunQ at k
  refine v_in ?_
  by_cases c : 0 ≤ i ∧ i < ((lns s.1.1).length : Int)
  · rw [if_pos c] at k
    have hne : ¬ lnB s.1.1 i = -1 := fun z => (r.2.2.mp z) c
    by_cases c2 : lnB s.1.1 (i + 1) = -1
    · refine v_load rfl rfl ⟨rfl, Nat.le_of_ble_eq_true rfl⟩ ?_
      refine v_getp rfl rfl rfl ?_
      refine v_load rfl rfl ⟨rfl, Nat.le_of_ble_eq_true rfl⟩ ?_
      refine v_callr rfl ⟨Nat.le_of_ble_eq_true rfl, Nat.le_of_ble_eq_true rfl, rfl, Nat.le_of_ble_eq_true rfl, rfl⟩ ?_
      refine S_lineBegin z_B2 h1 ?_
      refine v_store rfl ⟨rfl, Nat.le_of_ble_eq_true rfl, Nat.le_of_ble_eq_true rfl, rfl⟩ rfl ?_
      refine v_load rfl rfl ⟨rfl, Nat.le_of_ble_eq_true rfl⟩ ?_
      refine v_push rfl ?_
      refine v_ine rfl (fun _ => ?_) (fun h => absurd h (by omega))
      refine v_load rfl rfl ⟨rfl, Nat.le_of_ble_eq_true rfl⟩ ?_
      refine v_getp rfl rfl rfl ?_
      refine v_load rfl rfl ⟨rfl, Nat.le_of_ble_eq_true rfl⟩ ?_
      refine v_push rfl ?_
      refine v_add rfl (by omega) ?_
      refine v_callr rfl ⟨Nat.le_of_ble_eq_true rfl, Nat.le_of_ble_eq_true rfl, rfl, Nat.le_of_ble_eq_true rfl, rfl⟩ ?_
      refine S_lineBegin z_B2 h1 ?_
      refine v_store rfl ⟨rfl, Nat.le_of_ble_eq_true rfl, Nat.le_of_ble_eq_true rfl, rfl⟩ rfl ?_
      refine v_load rfl rfl ⟨rfl, Nat.le_of_ble_eq_true rfl⟩ ?_
      refine v_push rfl ?_
      refine v_ine rfl (fun h => absurd h (by omega)) (fun _ => ?_)
      refine v_load rfl rfl ⟨rfl, Nat.le_of_ble_eq_true rfl⟩ ?_
      refine v_getp rfl rfl rfl ?_
      refine v_callr rfl ⟨Nat.le_of_ble_eq_true rfl, Nat.le_of_ble_eq_true rfl, rfl, Nat.le_of_ble_eq_true rfl, rfl⟩ ?_
      refine S_sizeT z_B2 h1 ?_
      refine v_push rfl ?_
      refine v_add rfl (by omega) ?_
      refine v_goto rfl ?_
      refine v_store rfl ⟨rfl, Nat.le_of_ble_eq_true rfl, Nat.le_of_ble_eq_true rfl, rfl⟩ rfl ?_
      refine v_push rfl ?_
      refine v_store rfl ⟨rfl, Nat.le_of_ble_eq_true rfl, Nat.le_of_ble_eq_true rfl, rfl⟩ rfl ?_
      refine v_push rfl ?_
      refine v_store rfl ⟨rfl, Nat.le_of_ble_eq_true rfl, Nat.le_of_ble_eq_true rfl, rfl⟩ rfl ?_
      exact S_begun_loop (d := d + 7) (w := (9, 0)) h5 h6 hl c rfl (by rw [if_pos c2]) k _ 0 _ rfl (Nat.zero_le _)
    · refine v_load rfl rfl ⟨rfl, Nat.le_of_ble_eq_true rfl⟩ ?_
      refine v_getp rfl rfl rfl ?_
      refine v_load rfl rfl ⟨rfl, Nat.le_of_ble_eq_true rfl⟩ ?_
      refine v_callr rfl ⟨Nat.le_of_ble_eq_true rfl, Nat.le_of_ble_eq_true rfl, rfl, Nat.le_of_ble_eq_true rfl, rfl⟩ ?_
      refine S_lineBegin z_B2 h1 ?_
      refine v_store rfl ⟨rfl, Nat.le_of_ble_eq_true rfl, Nat.le_of_ble_eq_true rfl, rfl⟩ rfl ?_
      refine v_load rfl rfl ⟨rfl, Nat.le_of_ble_eq_true rfl⟩ ?_
      refine v_push rfl ?_
      refine v_ine rfl (fun _ => ?_) (fun h => absurd h (by omega))
      refine v_load rfl rfl ⟨rfl, Nat.le_of_ble_eq_true rfl⟩ ?_
      refine v_getp rfl rfl rfl ?_
      refine v_load rfl rfl ⟨rfl, Nat.le_of_ble_eq_true rfl⟩ ?_
      refine v_push rfl ?_
      refine v_add rfl (by omega) ?_
      refine v_callr rfl ⟨Nat.le_of_ble_eq_true rfl, Nat.le_of_ble_eq_true rfl, rfl, Nat.le_of_ble_eq_true rfl, rfl⟩ ?_
      refine S_lineBegin z_B2 h1 ?_
      refine v_store rfl ⟨rfl, Nat.le_of_ble_eq_true rfl, Nat.le_of_ble_eq_true rfl, rfl⟩ rfl ?_
      refine v_load rfl rfl ⟨rfl, Nat.le_of_ble_eq_true rfl⟩ ?_
      refine v_push rfl ?_
      refine v_ine rfl (fun _ => ?_) (fun h => absurd h (by omega))
      refine v_load rfl rfl ⟨rfl, Nat.le_of_ble_eq_true rfl⟩ ?_
      refine v_store rfl ⟨rfl, Nat.le_of_ble_eq_true rfl, Nat.le_of_ble_eq_true rfl, rfl⟩ rfl ?_
      refine v_push rfl ?_
      refine v_store rfl ⟨rfl, Nat.le_of_ble_eq_true rfl, Nat.le_of_ble_eq_true rfl, rfl⟩ rfl ?_
      refine v_push rfl ?_
      refine v_store rfl ⟨rfl, Nat.le_of_ble_eq_true rfl, Nat.le_of_ble_eq_true rfl, rfl⟩ rfl ?_
      exact S_begun_loop (d := d + 7) (w := (9, 0)) h5 h6 hl c rfl (by rw [if_neg c2]) k _ 0 _ rfl (Nat.zero_le _)
  · rw [if_neg c] at k
    have he := r.2.2.mpr c
    refine v_load rfl rfl ⟨rfl, Nat.le_of_ble_eq_true rfl⟩ ?_
    refine v_getp rfl rfl rfl ?_
    refine v_load rfl rfl ⟨rfl, Nat.le_of_ble_eq_true rfl⟩ ?_
    refine v_callr rfl ⟨Nat.le_of_ble_eq_true rfl, Nat.le_of_ble_eq_true rfl, rfl, Nat.le_of_ble_eq_true rfl, rfl⟩ ?_
    refine S_lineBegin z_B2 h1 ?_
    refine v_store rfl ⟨rfl, Nat.le_of_ble_eq_true rfl, Nat.le_of_ble_eq_true rfl, rfl⟩ rfl ?_
    refine v_load rfl rfl ⟨rfl, Nat.le_of_ble_eq_true rfl⟩ ?_
    refine v_push rfl ?_
    refine v_ine rfl (fun h => absurd h (by omega)) (fun _ => ?_)
    refine v_push rfl ?_
    refine v_ret rfl rfl ?_
    exact k
theorem R_begun_loop {i : Int} (hS : RSt t M) (k : Q (some (0, cI (bgP t i) (NT (toks t)).length)) M) : ∀ (n j : Nat), n = (NT (toks t)).length - j → j ≤ (NT (toks t)).length → v_wp L (d + 3) 282 14 [(2, 77), (0, i), (0, cI (bgP t i) j), (0, (j : Int))] [] M Q := by
  intro n
  have hlN := NT_1216 hS
  have hl := hS.1.2.1
  have h44 := (TM_len hS.2.2.1).1
  induction n with
  | zero =>
    intro j hn hj
    have ej : j = (NT (toks t)).length := by omega
    subst ej
    refine v_load rfl rfl ⟨rfl, Nat.le_of_ble_eq_true rfl⟩ ?_
    refine v_load rfl rfl ⟨rfl, Nat.le_of_ble_eq_true rfl⟩ ?_
    refine v_getx rfl rfl (h44) ?_
    refine v_ige rfl (fun _ => ?_) (fun h => absurd h (by omega))
    refine v_load rfl rfl ⟨rfl, Nat.le_of_ble_eq_true rfl⟩ ?_
    refine v_ret rfl rfl ?_
    exact k
  | succ n ih =>
    intro j hn hj
    have r := pF_rng t (j : Int)
    have hc := cI_nn (bgP t i) j
    have ihh := ih (j + 1) (by omega) (by omega)
    rw [show cI (bgP t i) (j + 1) = cI (bgP t i) j + (if nlF t (pF t (j : Int)).toNat = i then 1 else 0) by show cI (bgP t i) j + _ = _; unfold bgP; simp, show ((j + 1 : Nat) : Int) = (j : Int) + 1 by omega] at ihh
    by_cases c : nlF t (pF t (j : Int)).toNat = i
    · rw [if_pos c] at ihh
      refine v_load rfl rfl ⟨rfl, Nat.le_of_ble_eq_true rfl⟩ ?_
      refine v_load rfl rfl ⟨rfl, Nat.le_of_ble_eq_true rfl⟩ ?_
      refine v_getx rfl rfl (h44) ?_
      refine v_ige rfl (fun h => absurd h (by omega)) (fun _ => ?_)
      refine v_load rfl rfl ⟨rfl, Nat.le_of_ble_eq_true rfl⟩ ?_
      refine v_load rfl rfl ⟨rfl, Nat.le_of_ble_eq_true rfl⟩ ?_
      refine v_load rfl rfl ⟨rfl, Nat.le_of_ble_eq_true rfl⟩ ?_
      refine v_callr rfl ⟨Nat.le_of_ble_eq_true rfl, Nat.le_of_ble_eq_true rfl, rfl, Nat.le_of_ble_eq_true rfl, rfl⟩ ?_
      refine R_from hS ⟨by omega, by omega⟩ ?_
      refine v_callr rfl ⟨Nat.le_of_ble_eq_true rfl, Nat.le_of_ble_eq_true rfl, rfl, Nat.le_of_ble_eq_true rfl, rfl⟩ ?_
      refine R_lineOf hS.2.2.2.1 hl r ?_
      refine v_load rfl rfl ⟨rfl, Nat.le_of_ble_eq_true rfl⟩ ?_
      refine v_ine rfl (fun h => absurd h (by omega)) (fun _ => ?_)
      refine v_load rfl rfl ⟨rfl, Nat.le_of_ble_eq_true rfl⟩ ?_
      refine v_push rfl ?_
      refine v_add rfl (by omega) ?_
      refine v_goto rfl ?_
      refine v_store rfl ⟨rfl, Nat.le_of_ble_eq_true rfl, Nat.le_of_ble_eq_true rfl, rfl⟩ rfl ?_
      refine v_iinc rfl rfl rfl (by omega) rfl ?_
      refine v_goto rfl ?_
      exact ihh
    · rw [if_neg c, Int.add_zero] at ihh
      refine v_load rfl rfl ⟨rfl, Nat.le_of_ble_eq_true rfl⟩ ?_
      refine v_load rfl rfl ⟨rfl, Nat.le_of_ble_eq_true rfl⟩ ?_
      refine v_getx rfl rfl (h44) ?_
      refine v_ige rfl (fun h => absurd h (by omega)) (fun _ => ?_)
      refine v_load rfl rfl ⟨rfl, Nat.le_of_ble_eq_true rfl⟩ ?_
      refine v_load rfl rfl ⟨rfl, Nat.le_of_ble_eq_true rfl⟩ ?_
      refine v_load rfl rfl ⟨rfl, Nat.le_of_ble_eq_true rfl⟩ ?_
      refine v_callr rfl ⟨Nat.le_of_ble_eq_true rfl, Nat.le_of_ble_eq_true rfl, rfl, Nat.le_of_ble_eq_true rfl, rfl⟩ ?_
      refine R_from hS ⟨by omega, by omega⟩ ?_
      refine v_callr rfl ⟨Nat.le_of_ble_eq_true rfl, Nat.le_of_ble_eq_true rfl, rfl, Nat.le_of_ble_eq_true rfl, rfl⟩ ?_
      refine R_lineOf hS.2.2.2.1 hl r ?_
      refine v_load rfl rfl ⟨rfl, Nat.le_of_ble_eq_true rfl⟩ ?_
      refine v_ine rfl (fun _ => ?_) (fun h => absurd h (by omega))
      refine v_load rfl rfl ⟨rfl, Nat.le_of_ble_eq_true rfl⟩ ?_
      refine v_store rfl ⟨rfl, Nat.le_of_ble_eq_true rfl, Nat.le_of_ble_eq_true rfl, rfl⟩ rfl ?_
      refine v_iinc rfl rfl rfl (by omega) rfl ?_
      refine v_goto rfl ?_
      exact ihh
theorem R_begun {i : Int} (hC : RS s M) (k : Q (some (0, begunQ s i)) M) : v_call L (d + 10) 282 [(2, 77), (0, i)] M Q := by
  have hS := hC.1
  unfold begunQ at k
  refine v_in ?_
  by_cases c : 0 ≤ i ∧ i ≤ ((lns s.1.1).length : Int) - 1
  · rw [if_pos ⟨c.1, by omega⟩] at k
    refine v_load rfl rfl ⟨rfl, Nat.le_of_ble_eq_true rfl⟩ ?_
    refine v_load rfl rfl ⟨rfl, Nat.le_of_ble_eq_true rfl⟩ ?_
    refine v_callr rfl ⟨Nat.le_of_ble_eq_true rfl, Nat.le_of_ble_eq_true rfl, rfl, Nat.le_of_ble_eq_true rfl, rfl⟩ ?_
    refine R_isLine hS ?_
    rw [b2i_t (decide_eq_true c)]
    refine v_ifne rfl (fun _ => ?_) (fun h => absurd h (by decide))
    refine v_push rfl ?_
    refine v_store rfl ⟨rfl, Nat.le_of_ble_eq_true rfl, Nat.le_of_ble_eq_true rfl, rfl⟩ rfl ?_
    refine v_push rfl ?_
    refine v_store rfl ⟨rfl, Nat.le_of_ble_eq_true rfl, Nat.le_of_ble_eq_true rfl, rfl⟩ rfl ?_
    exact R_begun_loop (d := d + 7) hS k _ 0 rfl (Nat.zero_le _)
  · rw [if_neg (by omega)] at k
    refine v_load rfl rfl ⟨rfl, Nat.le_of_ble_eq_true rfl⟩ ?_
    refine v_load rfl rfl ⟨rfl, Nat.le_of_ble_eq_true rfl⟩ ?_
    refine v_callr rfl ⟨Nat.le_of_ble_eq_true rfl, Nat.le_of_ble_eq_true rfl, rfl, Nat.le_of_ble_eq_true rfl, rfl⟩ ?_
    refine R_isLine hS ?_
    rw [b2i_f (by simpa using c)]
    refine v_ifne rfl (fun h => absurd h (by decide)) (fun _ => ?_)
    refine v_push rfl ?_
    refine v_ret rfl rfl ?_
    exact k
end Q4
