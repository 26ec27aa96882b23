/-! QUESTIONS: match, both sides -/
section QI
variable {L d n : Nat} {M : zM} {Q : Option zV → zM → Prop} {s : zA} {t : List Int}
noncomputable def mI (t : List Int) (m : Int) : Int := if (nd (NT (toks t)) (nd (NT (toks t)) m).2.1).1 = 5 then (if (nd (NT (toks t)) m).2.2.2.2.2.2.2 = 123 then (nd (NT (toks t)) (nd (NT (toks t)) m).2.1).2.2.1 - 1 else 0) else if (nd (NT (toks t)) (nd (NT (toks t)) m).2.1).1 = 15 then (if (nd (NT (toks t)) m).2.2.2.2.2.2.2 = 40 then (nd (NT (toks t)) (nd (NT (toks t)) m).2.1).2.2.1 - 1 else 0) else (if (nd (NT (toks t)) m).2.2.2.2.2.2.2 = 40 then (nd (NT (toks t)) (nd (NT (toks t)) m).2.1).2.2.1 - 2 else 1)
noncomputable def mtN (t : List Int) (m : Int) : Int := if pn (nd (NT (toks t)) m).2.2.2.2.2.2.2 = 0 then -1 else kid t (nd (NT (toks t)) m).2.1 (mI t m)
noncomputable def mtR (t : List Int) (c : Int) : Int := if c = -1 then -1 else if (nd (NT (toks t)) c).1 = 17 then -2 else pF t c
noncomputable def matchQ (s : zA) (p : Int) : Int := if hld s.1.1 p ≠ -1 ∧ (nd (NT (toks s.1.1)) (lf (NT (toks s.1.1)) (hld s.1.1 p))).1 = 16 then mtR s.1.1 (mtN s.1.1 (lf (NT (toks s.1.1)) (hld s.1.1 p))) else -1
theorem hld_rng {p : Int} : -1 ≤ hld t p ∧ hld t p < ((toks t).length : Int) := (hl_rng (hdP t p) (toks t).length).1
theorem hld_out {p : Int} (h : ¬ (0 ≤ p ∧ p < (t.length : Int))) : hld t p = -1 := by
  have e : flt (hdP t p) (toks t).length = [] := List.eq_nil_iff_forall_not_mem.mpr (fun x hx => by
    have z := of_decide_eq_true (flt_mem.mp hx).2
    have r := tk_rng (t := t) (x : Int)
    omega)
  unfold hld
  rw [e]
  rfl
/-- the class's partner -/
theorem S_partner {g : Int} (k : Q (some (0, pn g)) M) : v_call L d 156 [(0, g)] M Q := by
  refine v_in ?_
  unfold pn at k
  by_cases c1 : g = 40
  · subst c1
    refine v_load rfl rfl ⟨rfl, Nat.le_of_ble_eq_true rfl⟩ ?_
    refine v_lsw rfl ?_
    refine v_push rfl ?_
    refine v_ret rfl rfl ?_
    exact k
  · by_cases c2 : g = 41
    · subst c2
      refine v_load rfl rfl ⟨rfl, Nat.le_of_ble_eq_true rfl⟩ ?_
      refine v_lsw rfl ?_
      refine v_push rfl ?_
      refine v_ret rfl rfl ?_
      exact k
    · by_cases c3 : g = 123
      · subst c3
        refine v_load rfl rfl ⟨rfl, Nat.le_of_ble_eq_true rfl⟩ ?_
        refine v_lsw rfl ?_
        refine v_push rfl ?_
        refine v_ret rfl rfl ?_
        exact k
      · by_cases c4 : g = 125
        · subst c4
          refine v_load rfl rfl ⟨rfl, Nat.le_of_ble_eq_true rfl⟩ ?_
          refine v_lsw rfl ?_
          refine v_push rfl ?_
          refine v_ret rfl rfl ?_
          exact k
        · rw [if_neg c1, if_neg c2, if_neg c3, if_neg c4] at k
          refine v_load rfl rfl ⟨rfl, Nat.le_of_ble_eq_true rfl⟩ ?_
          refine v_lsw rfl ?_
          rw [z_sw_out _ (by simp only [List.forall_mem_cons, List.not_mem_nil, false_implies, implies_true, and_true]; omega)]
          refine v_push rfl ?_
          refine v_ret rfl rfl ?_
          exact k
theorem mt_eq {m : Int} {kk : Nat} (hk : (kk : Int) < (nd (NT (toks t)) (nd (NT (toks t)) m).2.1).2.2.1) (h : ((nd (NT (toks t)) (nd (NT (toks t)) m).2.1).1 = 5 ∧ ((nd (NT (toks t)) m).2.2.2.2.2.2.2 = 123 ∧ (kk : Int) = (nd (NT (toks t)) (nd (NT (toks t)) m).2.1).2.2.1 - 1 ∨ (nd (NT (toks t)) m).2.2.2.2.2.2.2 = 125 ∧ kk = 0)) ∨
       ((nd (NT (toks t)) (nd (NT (toks t)) m).2.1).1 = 15 ∧ ((nd (NT (toks t)) m).2.2.2.2.2.2.2 = 40 ∧ (kk : Int) = (nd (NT (toks t)) (nd (NT (toks t)) m).2.1).2.2.1 - 1 ∨ (nd (NT (toks t)) m).2.2.2.2.2.2.2 = 41 ∧ kk = 0)) ∨
       ((nd (NT (toks t)) (nd (NT (toks t)) m).2.1).1 = 3 ∧ ((nd (NT (toks t)) m).2.2.2.2.2.2.2 = 40 ∧ (kk : Int) = (nd (NT (toks t)) (nd (NT (toks t)) m).2.1).2.2.1 - 2 ∨ (nd (NT (toks t)) m).2.2.2.2.2.2.2 = 41 ∧ kk = 1))) : mI t m = (kk : Int) ∧ ¬ pn (nd (NT (toks t)) m).2.2.2.2.2.2.2 = 0 ∧ mtN t m = kid t (nd (NT (toks t)) m).2.1 (kk : Int) ∧ ¬ mtN t m = -1 := by
  have e1 : mI t m = (kk : Int) := by unfold mI; repeat' split; all_goals omega
  have e2 : ¬ pn (nd (NT (toks t)) m).2.2.2.2.2.2.2 = 0 := by unfold pn; repeat' split; all_goals omega
  have e3 : mtN t m = kid t (nd (NT (toks t)) m).2.1 (kk : Int) := by unfold mtN; rw [if_neg e2, e1]
  refine ⟨e1, e2, e3, ?_⟩
  have hp : 0 ≤ (nd (NT (toks t)) m).2.1 := (sort_in (t := t) (i := (nd (NT (toks t)) m).2.1) (by omega)).1
  have := kid_in (t := t) (i := (nd (NT (toks t)) m).2.1) (k := (kk : Int)) ⟨by omega, hk⟩
  rw [e3]
  omega
theorem S_match_loop {i m : Int} {kk : Nat} (hk : (kk : Int) < (nd (NT (toks t)) (nd (NT (toks t)) m).2.1).2.2.1) (hw : kS t (nd (NT (toks t)) m).2.1 kk = pn (nd (NT (toks t)) m).2.2.2.2.2.2.2) (hb : ∀ k : Nat, k < kk → ¬ kS t (nd (NT (toks t)) m).2.1 k = pn (nd (NT (toks t)) m).2.2.2.2.2.2.2) (hR : RT (toks t) M) (hN : TN (toks t) M) (hl : t.length ≤ 300) (k : Q (some (0, if (nd (NT (toks t)) (kid t (nd (NT (toks t)) m).2.1 (kk : Int))).1 = 17 then -2 else pF t (kid t (nd (NT (toks t)) m).2.1 (kk : Int)))) M) : ∀ (n x : Nat) (w : zV), x + n = kk → v_wp L (d + 4) 149 62 [(2, 1), (0, i), (0, m), (0, pn (nd (NT (toks t)) m).2.2.2.2.2.2.2), (0, (nd (NT (toks t)) m).2.1), (0, (x : Int)), w] [] M Q := by
  intro n
  have hlN : (NT (toks t)).length ≤ 1216 := hN.1.2.1
  have hkl := NT_kid (t := t) (i := (nd (NT (toks t)) m).2.1)
  have hnr := nd_siz (t := t) (nd (NT (toks t)) m).2.1
  have hks : (nd (NT (toks t)) (nd (NT (toks t)) m).2.1).2.2.1 ≤ 1216 := by
    by_cases c : 0 ≤ (nd (NT (toks t)) m).2.1 ∧ (nd (NT (toks t)) m).2.1 < ((NT (toks t)).length : Int)
    · have := NT_siz c; have := hkl c; omega
    · rw [nd_out c]; decide
  induction n with
  | zero =>
    intro x w hx
    have ex : x = kk := by omega
    subst ex
    by_cases c : (nd (NT (toks t)) (kid t (nd (NT (toks t)) m).2.1 (x : Int))).1 = 17
    · rw [if_pos c] at k
      refine v_load rfl rfl ⟨rfl, Nat.le_of_ble_eq_true rfl⟩ ?_
      refine v_load rfl rfl ⟨rfl, Nat.le_of_ble_eq_true rfl⟩ ?_
      refine v_getp rfl rfl rfl ?_
      refine v_load rfl rfl ⟨rfl, Nat.le_of_ble_eq_true rfl⟩ ?_
      refine v_callr rfl ⟨Nat.le_of_ble_eq_true rfl, Nat.le_of_ble_eq_true rfl, rfl, Nat.le_of_ble_eq_true rfl, rfl⟩ ?_
      refine S_ndKids hN.1 ?_
      refine v_ige rfl (fun h => absurd h (by omega)) (fun _ => ?_)
      refine v_load rfl rfl ⟨rfl, Nat.le_of_ble_eq_true rfl⟩ ?_
      refine v_getp rfl rfl rfl ?_
      refine v_load rfl rfl ⟨rfl, Nat.le_of_ble_eq_true rfl⟩ ?_
      refine v_load rfl rfl ⟨rfl, Nat.le_of_ble_eq_true rfl⟩ ?_
      refine v_callr rfl ⟨Nat.le_of_ble_eq_true rfl, Nat.le_of_ble_eq_true rfl, rfl, Nat.le_of_ble_eq_true rfl, rfl⟩ ?_
      refine S_kidOf hN.1 hlN ?_
      refine v_store rfl ⟨rfl, Nat.le_of_ble_eq_true rfl, Nat.le_of_ble_eq_true rfl, rfl⟩ rfl ?_
      refine v_load rfl rfl ⟨rfl, Nat.le_of_ble_eq_true rfl⟩ ?_
      refine v_getp rfl rfl rfl ?_
      refine v_load rfl rfl ⟨rfl, Nat.le_of_ble_eq_true rfl⟩ ?_
      refine v_callr rfl ⟨Nat.le_of_ble_eq_true rfl, Nat.le_of_ble_eq_true rfl, rfl, Nat.le_of_ble_eq_true rfl, rfl⟩ ?_
      refine S_ndSign hN.1 ?_
      refine v_load rfl rfl ⟨rfl, Nat.le_of_ble_eq_true rfl⟩ ?_
      refine v_ine rfl (fun h => absurd h (fun z => z hw)) (fun _ => ?_)
      refine v_load rfl rfl ⟨rfl, Nat.le_of_ble_eq_true rfl⟩ ?_
      refine v_getp rfl rfl rfl ?_
      refine v_load rfl rfl ⟨rfl, Nat.le_of_ble_eq_true rfl⟩ ?_
      refine v_push rfl ?_
      refine v_callr rfl ⟨Nat.le_of_ble_eq_true rfl, Nat.le_of_ble_eq_true rfl, rfl, Nat.le_of_ble_eq_true rfl, rfl⟩ ?_
      refine S_ndIsOf hN.1 (by decide) ?_
      rw [b2i_t (decide_eq_true c)]
      refine v_ifeq rfl (fun h => absurd h (by decide)) (fun _ => ?_)
      refine v_push rfl ?_
      refine v_goto rfl ?_
      refine v_ret rfl rfl ?_
      exact k
    · rw [if_neg c] at k
      refine v_load rfl rfl ⟨rfl, Nat.le_of_ble_eq_true rfl⟩ ?_
      refine v_load rfl rfl ⟨rfl, Nat.le_of_ble_eq_true rfl⟩ ?_
      refine v_getp rfl rfl rfl ?_
      refine v_load rfl rfl ⟨rfl, Nat.le_of_ble_eq_true rfl⟩ ?_
      refine v_callr rfl ⟨Nat.le_of_ble_eq_true rfl, Nat.le_of_ble_eq_true rfl, rfl, Nat.le_of_ble_eq_true rfl, rfl⟩ ?_
      refine S_ndKids hN.1 ?_
      refine v_ige rfl (fun h => absurd h (by omega)) (fun _ => ?_)
      refine v_load rfl rfl ⟨rfl, Nat.le_of_ble_eq_true rfl⟩ ?_
      refine v_getp rfl rfl rfl ?_
      refine v_load rfl rfl ⟨rfl, Nat.le_of_ble_eq_true rfl⟩ ?_
      refine v_load rfl rfl ⟨rfl, Nat.le_of_ble_eq_true rfl⟩ ?_
      refine v_callr rfl ⟨Nat.le_of_ble_eq_true rfl, Nat.le_of_ble_eq_true rfl, rfl, Nat.le_of_ble_eq_true rfl, rfl⟩ ?_
      refine S_kidOf hN.1 hlN ?_
      refine v_store rfl ⟨rfl, Nat.le_of_ble_eq_true rfl, Nat.le_of_ble_eq_true rfl, rfl⟩ rfl ?_
      refine v_load rfl rfl ⟨rfl, Nat.le_of_ble_eq_true rfl⟩ ?_
      refine v_getp rfl rfl rfl ?_
      refine v_load rfl rfl ⟨rfl, Nat.le_of_ble_eq_true rfl⟩ ?_
      refine v_callr rfl ⟨Nat.le_of_ble_eq_true rfl, Nat.le_of_ble_eq_true rfl, rfl, Nat.le_of_ble_eq_true rfl, rfl⟩ ?_
      refine S_ndSign hN.1 ?_
      refine v_load rfl rfl ⟨rfl, Nat.le_of_ble_eq_true rfl⟩ ?_
      refine v_ine rfl (fun h => absurd h (fun z => z hw)) (fun _ => ?_)
      refine v_load rfl rfl ⟨rfl, Nat.le_of_ble_eq_true rfl⟩ ?_
      refine v_getp rfl rfl rfl ?_
      refine v_load rfl rfl ⟨rfl, Nat.le_of_ble_eq_true rfl⟩ ?_
      refine v_push rfl ?_
      refine v_callr rfl ⟨Nat.le_of_ble_eq_true rfl, Nat.le_of_ble_eq_true rfl, rfl, Nat.le_of_ble_eq_true rfl, rfl⟩ ?_
      refine S_ndIsOf hN.1 (by decide) ?_
      rw [b2i_f (by simpa using c)]
      refine v_ifeq rfl (fun _ => ?_) (fun h => absurd h (by decide))
      refine v_load rfl rfl ⟨rfl, Nat.le_of_ble_eq_true rfl⟩ ?_
      refine v_getp rfl rfl rfl ?_
      refine v_load rfl rfl ⟨rfl, Nat.le_of_ble_eq_true rfl⟩ ?_
      refine v_callr rfl ⟨Nat.le_of_ble_eq_true rfl, Nat.le_of_ble_eq_true rfl, rfl, Nat.le_of_ble_eq_true rfl, rfl⟩ ?_
      refine S_firstOf hR hN hl ?_
      refine v_ret rfl rfl ?_
      exact k
  | succ n ih =>
    intro x w hx
    have hbx := hb x (by omega)
    have ihh := fun w => ih (x + 1) w (by omega)
    rw [show ((x + 1 : Nat) : Int) = (x : Int) + 1 by omega] at ihh
    refine v_load rfl rfl ⟨rfl, Nat.le_of_ble_eq_true rfl⟩ ?_
    refine v_load rfl rfl ⟨rfl, Nat.le_of_ble_eq_true rfl⟩ ?_
    refine v_getp rfl rfl rfl ?_
    refine v_load rfl rfl ⟨rfl, Nat.le_of_ble_eq_true rfl⟩ ?_
    refine v_callr rfl ⟨Nat.le_of_ble_eq_true rfl, Nat.le_of_ble_eq_true rfl, rfl, Nat.le_of_ble_eq_true rfl, rfl⟩ ?_
    refine S_ndKids hN.1 ?_
    refine v_ige rfl (fun h => absurd h (by omega)) (fun _ => ?_)
    refine v_load rfl rfl ⟨rfl, Nat.le_of_ble_eq_true rfl⟩ ?_
    refine v_getp rfl rfl rfl ?_
    refine v_load rfl rfl ⟨rfl, Nat.le_of_ble_eq_true rfl⟩ ?_
    refine v_load rfl rfl ⟨rfl, Nat.le_of_ble_eq_true rfl⟩ ?_
    refine v_callr rfl ⟨Nat.le_of_ble_eq_true rfl, Nat.le_of_ble_eq_true rfl, rfl, Nat.le_of_ble_eq_true rfl, rfl⟩ ?_
    refine S_kidOf hN.1 hlN ?_
    refine v_store rfl ⟨rfl, Nat.le_of_ble_eq_true rfl, Nat.le_of_ble_eq_true rfl, rfl⟩ rfl ?_
    refine v_load rfl rfl ⟨rfl, Nat.le_of_ble_eq_true rfl⟩ ?_
    refine v_getp rfl rfl rfl ?_
    refine v_load rfl rfl ⟨rfl, Nat.le_of_ble_eq_true rfl⟩ ?_
    refine v_callr rfl ⟨Nat.le_of_ble_eq_true rfl, Nat.le_of_ble_eq_true rfl, rfl, Nat.le_of_ble_eq_true rfl, rfl⟩ ?_
    refine S_ndSign hN.1 ?_
    refine v_load rfl rfl ⟨rfl, Nat.le_of_ble_eq_true rfl⟩ ?_
    refine v_ine rfl (fun _ => ?_) (fun h => absurd h (hbx))
    refine v_iinc rfl rfl rfl (by omega) rfl ?_
    refine v_goto rfl ?_
    exact ihh _
theorem S_match {p : Int} (hC : CS s M) (hB : BS s n) (k : Q (some (0, matchQ s p)) M) : v_call L (d + 10) 149 [(2, 1), (0, p)] M Q := by
  obtain ⟨h1, -, -, -, h5, h6, -⟩ := id hC
  have hl := hB.1
  have hr := hld_rng (t := s.1.1) (p := p)
  unfold matchQ at k
  refine v_in ?_
  by_cases c0 : hld s.1.1 p = -1
  · rw [if_neg (fun z => z.1 c0)] at k
    refine v_load rfl rfl ⟨rfl, Nat.le_of_ble_eq_true rfl⟩ ?_
    refine v_getp rfl rfl rfl ?_
    refine v_load rfl rfl ⟨rfl, Nat.le_of_ble_eq_true rfl⟩ ?_
    refine v_getp rfl rfl rfl ?_
    refine v_load rfl rfl ⟨rfl, Nat.le_of_ble_eq_true rfl⟩ ?_
    refine v_callr rfl ⟨Nat.le_of_ble_eq_true rfl, Nat.le_of_ble_eq_true rfl, rfl, Nat.le_of_ble_eq_true rfl, rfl⟩ ?_
    refine S_holding h5 ?_
    refine v_callr rfl ⟨Nat.le_of_ble_eq_true rfl, Nat.le_of_ble_eq_true rfl, rfl, Nat.le_of_ble_eq_true rfl, rfl⟩ ?_
    refine S_leafOf h5 h6 hl ?_
    rw [if_neg (by omega)]
    refine v_store rfl ⟨rfl, Nat.le_of_ble_eq_true rfl, Nat.le_of_ble_eq_true rfl, rfl⟩ rfl ?_
    refine v_load rfl rfl ⟨rfl, Nat.le_of_ble_eq_true rfl⟩ ?_
    refine v_getp rfl rfl rfl ?_
    refine v_load rfl rfl ⟨rfl, Nat.le_of_ble_eq_true rfl⟩ ?_
    refine v_push rfl ?_
    refine v_callr rfl ⟨Nat.le_of_ble_eq_true rfl, Nat.le_of_ble_eq_true rfl, rfl, Nat.le_of_ble_eq_true rfl, rfl⟩ ?_
    refine S_ndIsOf h6.1 (by decide) ?_
    rw [b2i_f (by rw [nd_out (by omega)]; decide)]
    refine v_ifne rfl (fun h => absurd h (by decide)) (fun _ => ?_)
    refine v_push rfl ?_
    refine v_ret rfl rfl ?_
    exact k
  · have hm0 := lf_sp (t := s.1.1) (j := hld s.1.1 p) ⟨by omega, hr.2⟩
    generalize hg : lf (NT (toks s.1.1)) (hld s.1.1 p) = m at *
    by_cases c1 : (nd (NT (toks s.1.1)) m).1 = 16
    · rw [if_pos ⟨c0, c1⟩] at k
      have l := leaf1 (t := s.1.1) (i := m) ⟨hm0.1, hm0.2.1⟩ (by omega)
      rcases MATE ⟨l.1, hm0.2.1⟩ c1 with ⟨z, -⟩ | ⟨kk, q1, q2, q3, q4⟩
      · unfold mtN mtR at k
        rw [if_pos z, if_pos rfl] at k
        refine v_load rfl rfl ⟨rfl, Nat.le_of_ble_eq_true rfl⟩ ?_
        refine v_getp rfl rfl rfl ?_
        refine v_load rfl rfl ⟨rfl, Nat.le_of_ble_eq_true rfl⟩ ?_
        refine v_getp rfl rfl rfl ?_
        refine v_load rfl rfl ⟨rfl, Nat.le_of_ble_eq_true rfl⟩ ?_
        refine v_callr rfl ⟨Nat.le_of_ble_eq_true rfl, Nat.le_of_ble_eq_true rfl, rfl, Nat.le_of_ble_eq_true rfl, rfl⟩ ?_
        refine S_holding h5 ?_
        refine v_callr rfl ⟨Nat.le_of_ble_eq_true rfl, Nat.le_of_ble_eq_true rfl, rfl, Nat.le_of_ble_eq_true rfl, rfl⟩ ?_
        refine S_leafOf h5 h6 hl ?_
        rw [if_pos ⟨by omega, hr.2⟩, hg]
        refine v_store rfl ⟨rfl, Nat.le_of_ble_eq_true rfl, Nat.le_of_ble_eq_true rfl, rfl⟩ rfl ?_
        refine v_load rfl rfl ⟨rfl, Nat.le_of_ble_eq_true rfl⟩ ?_
        refine v_getp rfl rfl rfl ?_
        refine v_load rfl rfl ⟨rfl, Nat.le_of_ble_eq_true rfl⟩ ?_
        refine v_push rfl ?_
        refine v_callr rfl ⟨Nat.le_of_ble_eq_true rfl, Nat.le_of_ble_eq_true rfl, rfl, Nat.le_of_ble_eq_true rfl, rfl⟩ ?_
        refine S_ndIsOf h6.1 (by decide) ?_
        rw [b2i_t (decide_eq_true c1)]
        refine v_ifne rfl (fun _ => ?_) (fun h => absurd h (by decide))
        refine v_load rfl rfl ⟨rfl, Nat.le_of_ble_eq_true rfl⟩ ?_
        refine v_getp rfl rfl rfl ?_
        refine v_load rfl rfl ⟨rfl, Nat.le_of_ble_eq_true rfl⟩ ?_
        refine v_callr rfl ⟨Nat.le_of_ble_eq_true rfl, Nat.le_of_ble_eq_true rfl, rfl, Nat.le_of_ble_eq_true rfl, rfl⟩ ?_
        refine S_ndSign h6.1 ?_
        refine v_callr rfl ⟨Nat.le_of_ble_eq_true rfl, Nat.le_of_ble_eq_true rfl, rfl, Nat.le_of_ble_eq_true rfl, rfl⟩ ?_
        refine S_partner ?_
        refine v_store rfl ⟨rfl, Nat.le_of_ble_eq_true rfl, Nat.le_of_ble_eq_true rfl, rfl⟩ rfl ?_
        refine v_load rfl rfl ⟨rfl, Nat.le_of_ble_eq_true rfl⟩ ?_
        refine v_ifne rfl (fun h => absurd h (fun y => y z)) (fun _ => ?_)
        refine v_push rfl ?_
        refine v_ret rfl rfl ?_
        exact k
      · obtain ⟨e1, e2, e3, e4⟩ := mt_eq q1 q4
        unfold mtR at k
        rw [if_neg e4, e3] at k
        refine v_load rfl rfl ⟨rfl, Nat.le_of_ble_eq_true rfl⟩ ?_
        refine v_getp rfl rfl rfl ?_
        refine v_load rfl rfl ⟨rfl, Nat.le_of_ble_eq_true rfl⟩ ?_
        refine v_getp rfl rfl rfl ?_
        refine v_load rfl rfl ⟨rfl, Nat.le_of_ble_eq_true rfl⟩ ?_
        refine v_callr rfl ⟨Nat.le_of_ble_eq_true rfl, Nat.le_of_ble_eq_true rfl, rfl, Nat.le_of_ble_eq_true rfl, rfl⟩ ?_
        refine S_holding h5 ?_
        refine v_callr rfl ⟨Nat.le_of_ble_eq_true rfl, Nat.le_of_ble_eq_true rfl, rfl, Nat.le_of_ble_eq_true rfl, rfl⟩ ?_
        refine S_leafOf h5 h6 hl ?_
        rw [if_pos ⟨by omega, hr.2⟩, hg]
        refine v_store rfl ⟨rfl, Nat.le_of_ble_eq_true rfl, Nat.le_of_ble_eq_true rfl, rfl⟩ rfl ?_
        refine v_load rfl rfl ⟨rfl, Nat.le_of_ble_eq_true rfl⟩ ?_
        refine v_getp rfl rfl rfl ?_
        refine v_load rfl rfl ⟨rfl, Nat.le_of_ble_eq_true rfl⟩ ?_
        refine v_push rfl ?_
        refine v_callr rfl ⟨Nat.le_of_ble_eq_true rfl, Nat.le_of_ble_eq_true rfl, rfl, Nat.le_of_ble_eq_true rfl, rfl⟩ ?_
        refine S_ndIsOf h6.1 (by decide) ?_
        rw [b2i_t (decide_eq_true c1)]
        refine v_ifne rfl (fun _ => ?_) (fun h => absurd h (by decide))
        refine v_load rfl rfl ⟨rfl, Nat.le_of_ble_eq_true rfl⟩ ?_
        refine v_getp rfl rfl rfl ?_
        refine v_load rfl rfl ⟨rfl, Nat.le_of_ble_eq_true rfl⟩ ?_
        refine v_callr rfl ⟨Nat.le_of_ble_eq_true rfl, Nat.le_of_ble_eq_true rfl, rfl, Nat.le_of_ble_eq_true rfl, rfl⟩ ?_
        refine S_ndSign h6.1 ?_
        refine v_callr rfl ⟨Nat.le_of_ble_eq_true rfl, Nat.le_of_ble_eq_true rfl, rfl, Nat.le_of_ble_eq_true rfl, rfl⟩ ?_
        refine S_partner ?_
        refine v_store rfl ⟨rfl, Nat.le_of_ble_eq_true rfl, Nat.le_of_ble_eq_true rfl, rfl⟩ rfl ?_
        refine v_load rfl rfl ⟨rfl, Nat.le_of_ble_eq_true rfl⟩ ?_
        refine v_ifne rfl (fun _ => ?_) (fun h => absurd h (e2))
        refine v_load rfl rfl ⟨rfl, Nat.le_of_ble_eq_true rfl⟩ ?_
        refine v_getp rfl rfl rfl ?_
        refine v_load rfl rfl ⟨rfl, Nat.le_of_ble_eq_true rfl⟩ ?_
        refine v_callr rfl ⟨Nat.le_of_ble_eq_true rfl, Nat.le_of_ble_eq_true rfl, rfl, Nat.le_of_ble_eq_true rfl, rfl⟩ ?_
        refine S_ndUp h6.1 ?_
        refine v_store rfl ⟨rfl, Nat.le_of_ble_eq_true rfl, Nat.le_of_ble_eq_true rfl, rfl⟩ rfl ?_
        refine v_push rfl ?_
        refine v_store rfl ⟨rfl, Nat.le_of_ble_eq_true rfl, Nat.le_of_ble_eq_true rfl, rfl⟩ rfl ?_
        exact S_match_loop (d := d + 6) q1 q2 q3 h5 h6 hl k kk 0 _ (by omega)
    · rw [if_neg (fun z => c1 z.2)] at k
      refine v_load rfl rfl ⟨rfl, Nat.le_of_ble_eq_true rfl⟩ ?_
      refine v_getp rfl rfl rfl ?_
      refine v_load rfl rfl ⟨rfl, Nat.le_of_ble_eq_true rfl⟩ ?_
      refine v_getp rfl rfl rfl ?_
      refine v_load rfl rfl ⟨rfl, Nat.le_of_ble_eq_true rfl⟩ ?_
      refine v_callr rfl ⟨Nat.le_of_ble_eq_true rfl, Nat.le_of_ble_eq_true rfl, rfl, Nat.le_of_ble_eq_true rfl, rfl⟩ ?_
      refine S_holding h5 ?_
      refine v_callr rfl ⟨Nat.le_of_ble_eq_true rfl, Nat.le_of_ble_eq_true rfl, rfl, Nat.le_of_ble_eq_true rfl, rfl⟩ ?_
      refine S_leafOf h5 h6 hl ?_
      rw [if_pos ⟨by omega, hr.2⟩, hg]
      refine v_store rfl ⟨rfl, Nat.le_of_ble_eq_true rfl, Nat.le_of_ble_eq_true rfl, rfl⟩ rfl ?_
      refine v_load rfl rfl ⟨rfl, Nat.le_of_ble_eq_true rfl⟩ ?_
      refine v_getp rfl rfl rfl ?_
      refine v_load rfl rfl ⟨rfl, Nat.le_of_ble_eq_true rfl⟩ ?_
      refine v_push rfl ?_
      refine v_callr rfl ⟨Nat.le_of_ble_eq_true rfl, Nat.le_of_ble_eq_true rfl, rfl, Nat.le_of_ble_eq_true rfl, rfl⟩ ?_
      refine S_ndIsOf h6.1 (by decide) ?_
      rw [b2i_f (by simpa using c1)]
      refine v_ifne rfl (fun h => absurd h (by decide)) (fun _ => ?_)
      refine v_push rfl ?_
      refine v_ret rfl rfl ?_
      exact k
theorem R_mateOf {m : Int} (hS : RSt t M) (hm : 0 ≤ m ∧ m < ((NT (toks t)).length : Int)) (h16 : (nd (NT (toks t)) m).1 = 16) (k : Q (some (0, mtN t m)) M) : v_call L (d + 3) 276 [(2, 77), (0, m)] M Q := by
  have hl := NT_1216 hS
  have hlt := hS.1.2.1
  have l := leaf1 hm (by omega)
  have hm' : 0 < m ∧ m < ((NT (toks t)).length : Int) := ⟨l.1, hm.2⟩
  have u := up_in (t := t) (y := m) hm'
  obtain ⟨l1, l2⟩ := l.2.2.2.2 (by omega)
  have hp : 0 ≤ pF t m ∧ pF t m < (t.length : Int) := by
    have q := (tq_at l2.1).1
    have ep : pF t m = (tk (toks t) (nd (NT (toks t)) m).2.2.2.2.2.1).2.1 := by unfold pF; rw [if_neg (by omega), if_neg (by omega)]
    omega
  have gt := RX_at hS.1 hp
  have g2 := (TM_nd hS hm).2.1
  have mb := mk_byte hm h16
  have hP : 0 ≤ (nd (NT (toks t)) m).2.1 ∧ (nd (NT (toks t)) m).2.1 < ((NT (toks t)).length : Int) := ⟨u.1, by omega⟩
  have r1 := (TM_nd hS hP).1
  have r3 := (TM_nd hS hP).2.2.1
  have hkl := NT_kid hP
  have hsz := NT_siz hP
  refine v_in ?_
  have pre : v_wp L (d + 3) 276 18 [(2, 77), (0, m), (0, (nd (NT (toks t)) m).2.1), (0, tb t (pF t m))] [] M Q → v_wp L (d + 3) 276 0 (z_ent (z_ml 276) [(2, 77), (0, m)]) [] M Q := by
    intro kk
    refine v_load rfl rfl ⟨rfl, Nat.le_of_ble_eq_true rfl⟩ ?_
    refine v_getp rfl rfl rfl ?_
    refine v_load rfl rfl ⟨rfl, Nat.le_of_ble_eq_true rfl⟩ ?_
    refine v_ald9 rfl rfl ⟨by omega, by show _ < (1600 : Int); omega⟩ ?_
    rw [g2]
    refine v_store rfl ⟨rfl, Nat.le_of_ble_eq_true rfl, Nat.le_of_ble_eq_true rfl, rfl⟩ rfl ?_
    refine v_load rfl rfl ⟨rfl, Nat.le_of_ble_eq_true rfl⟩ ?_
    refine v_getp rfl rfl rfl ?_
    refine v_load rfl rfl ⟨rfl, Nat.le_of_ble_eq_true rfl⟩ ?_
    refine v_load rfl rfl ⟨rfl, Nat.le_of_ble_eq_true rfl⟩ ?_
    refine v_callr rfl ⟨Nat.le_of_ble_eq_true rfl, Nat.le_of_ble_eq_true rfl, rfl, Nat.le_of_ble_eq_true rfl, rfl⟩ ?_
    refine R_from hS hm ?_
    refine v_ald9 rfl rfl ⟨by omega, by show _ < (300 : Int); omega⟩ ?_
    rw [gt]
    refine v_store rfl ⟨rfl, Nat.le_of_ble_eq_true rfl, Nat.le_of_ble_eq_true rfl, rfl⟩ rfl ?_
    exact kk
  refine pre ?_
  rcases MATE hm' h16 with ⟨z, y5, y15, y3⟩ | ⟨kk, q1, q2, q3, q4⟩
  · unfold mtN at k
    rw [if_pos z] at k
    by_cases c3 : (nd (NT (toks t)) (nd (NT (toks t)) m).2.1).1 = 3
    · have mb := mb (by have := y3 c3; omega)
      have y3 := y3 c3
      refine v_load rfl rfl ⟨rfl, Nat.le_of_ble_eq_true rfl⟩ ?_
      refine v_getp rfl rfl rfl ?_
      refine v_load rfl rfl ⟨rfl, Nat.le_of_ble_eq_true rfl⟩ ?_
      refine v_ald9 rfl rfl ⟨by omega, by show _ < (1600 : Int); omega⟩ ?_
      rw [r1]
      refine v_push rfl ?_
      refine v_ine rfl (fun _ => ?_) (fun h => absurd h (by omega))
      refine v_load rfl rfl ⟨rfl, Nat.le_of_ble_eq_true rfl⟩ ?_
      refine v_getp rfl rfl rfl ?_
      refine v_load rfl rfl ⟨rfl, Nat.le_of_ble_eq_true rfl⟩ ?_
      refine v_ald9 rfl rfl ⟨by omega, by show _ < (1600 : Int); omega⟩ ?_
      rw [r1]
      refine v_push rfl ?_
      refine v_ine rfl (fun _ => ?_) (fun h => absurd h (by omega))
      refine v_load rfl rfl ⟨rfl, Nat.le_of_ble_eq_true rfl⟩ ?_
      refine v_getp rfl rfl rfl ?_
      refine v_load rfl rfl ⟨rfl, Nat.le_of_ble_eq_true rfl⟩ ?_
      refine v_ald9 rfl rfl ⟨by omega, by show _ < (1600 : Int); omega⟩ ?_
      rw [r1]
      refine v_push rfl ?_
      refine v_ine rfl (fun h => absurd h (by omega)) (fun _ => ?_)
      refine v_load rfl rfl ⟨rfl, Nat.le_of_ble_eq_true rfl⟩ ?_
      refine v_push rfl ?_
      refine v_ine rfl (fun h => absurd h (by omega)) (fun _ => ?_)
      refine v_push rfl ?_
      refine v_ret rfl rfl ?_
      exact k
    · refine v_load rfl rfl ⟨rfl, Nat.le_of_ble_eq_true rfl⟩ ?_
      refine v_getp rfl rfl rfl ?_
      refine v_load rfl rfl ⟨rfl, Nat.le_of_ble_eq_true rfl⟩ ?_
      refine v_ald9 rfl rfl ⟨by omega, by show _ < (1600 : Int); omega⟩ ?_
      rw [r1]
      refine v_push rfl ?_
      refine v_ine rfl (fun _ => ?_) (fun h => absurd h (by omega))
      refine v_load rfl rfl ⟨rfl, Nat.le_of_ble_eq_true rfl⟩ ?_
      refine v_getp rfl rfl rfl ?_
      refine v_load rfl rfl ⟨rfl, Nat.le_of_ble_eq_true rfl⟩ ?_
      refine v_ald9 rfl rfl ⟨by omega, by show _ < (1600 : Int); omega⟩ ?_
      rw [r1]
      refine v_push rfl ?_
      refine v_ine rfl (fun _ => ?_) (fun h => absurd h (by omega))
      refine v_load rfl rfl ⟨rfl, Nat.le_of_ble_eq_true rfl⟩ ?_
      refine v_getp rfl rfl rfl ?_
      refine v_load rfl rfl ⟨rfl, Nat.le_of_ble_eq_true rfl⟩ ?_
      refine v_ald9 rfl rfl ⟨by omega, by show _ < (1600 : Int); omega⟩ ?_
      rw [r1]
      refine v_push rfl ?_
      refine v_ine rfl (fun _ => ?_) (fun h => absurd h (by omega))
      refine v_push rfl ?_
      refine v_ret rfl rfl ?_
      exact k
  · obtain ⟨e1, e2, e3, e4⟩ := mt_eq q1 q4
    have hg : 40 ≤ (nd (NT (toks t)) m).2.2.2.2.2.2.2 := by omega
    have mb := mb hg
    rw [e3] at k
    rcases q4 with ⟨s5, ⟨g, e⟩ | ⟨g, e⟩⟩ | ⟨s5, ⟨g, e⟩ | ⟨g, e⟩⟩ | ⟨s5, ⟨g, e⟩ | ⟨g, e⟩⟩
    · refine v_load rfl rfl ⟨rfl, Nat.le_of_ble_eq_true rfl⟩ ?_
      refine v_getp rfl rfl rfl ?_
      refine v_load rfl rfl ⟨rfl, Nat.le_of_ble_eq_true rfl⟩ ?_
      refine v_ald9 rfl rfl ⟨by omega, by show _ < (1600 : Int); omega⟩ ?_
      rw [r1]
      refine v_push rfl ?_
      refine v_ine rfl (fun h => absurd h (by omega)) (fun _ => ?_)
      refine v_load rfl rfl ⟨rfl, Nat.le_of_ble_eq_true rfl⟩ ?_
      refine v_push rfl ?_
      refine v_ine rfl (fun h => absurd h (by omega)) (fun _ => ?_)
      refine v_load rfl rfl ⟨rfl, Nat.le_of_ble_eq_true rfl⟩ ?_
      refine v_load rfl rfl ⟨rfl, Nat.le_of_ble_eq_true rfl⟩ ?_
      refine v_callr rfl ⟨Nat.le_of_ble_eq_true rfl, Nat.le_of_ble_eq_true rfl, rfl, Nat.le_of_ble_eq_true rfl, rfl⟩ ?_
      refine R_lastChild hS hP (by omega) ?_
      refine v_goto rfl ?_
      refine v_ret rfl rfl ?_
      rw [← e]; exact k
    · subst e
      have k : Q (some (0, kid t (nd (NT (toks t)) m).2.1 0)) M := k
      rw [kid_0 hP.1 (by omega)] at k
      refine v_load rfl rfl ⟨rfl, Nat.le_of_ble_eq_true rfl⟩ ?_
      refine v_getp rfl rfl rfl ?_
      refine v_load rfl rfl ⟨rfl, Nat.le_of_ble_eq_true rfl⟩ ?_
      refine v_ald9 rfl rfl ⟨by omega, by show _ < (1600 : Int); omega⟩ ?_
      rw [r1]
      refine v_push rfl ?_
      refine v_ine rfl (fun h => absurd h (by omega)) (fun _ => ?_)
      refine v_load rfl rfl ⟨rfl, Nat.le_of_ble_eq_true rfl⟩ ?_
      refine v_push rfl ?_
      refine v_ine rfl (fun _ => ?_) (fun h => absurd h (by omega))
      refine v_load rfl rfl ⟨rfl, Nat.le_of_ble_eq_true rfl⟩ ?_
      refine v_push rfl ?_
      refine v_add rfl (by omega) ?_
      refine v_ret rfl rfl ?_
      exact k
    · refine v_load rfl rfl ⟨rfl, Nat.le_of_ble_eq_true rfl⟩ ?_
      refine v_getp rfl rfl rfl ?_
      refine v_load rfl rfl ⟨rfl, Nat.le_of_ble_eq_true rfl⟩ ?_
      refine v_ald9 rfl rfl ⟨by omega, by show _ < (1600 : Int); omega⟩ ?_
      rw [r1]
      refine v_push rfl ?_
      refine v_ine rfl (fun _ => ?_) (fun h => absurd h (by omega))
      refine v_load rfl rfl ⟨rfl, Nat.le_of_ble_eq_true rfl⟩ ?_
      refine v_getp rfl rfl rfl ?_
      refine v_load rfl rfl ⟨rfl, Nat.le_of_ble_eq_true rfl⟩ ?_
      refine v_ald9 rfl rfl ⟨by omega, by show _ < (1600 : Int); omega⟩ ?_
      rw [r1]
      refine v_push rfl ?_
      refine v_ine rfl (fun h => absurd h (by omega)) (fun _ => ?_)
      refine v_load rfl rfl ⟨rfl, Nat.le_of_ble_eq_true rfl⟩ ?_
      refine v_push rfl ?_
      refine v_ieq rfl (fun h => absurd h (by omega)) (fun _ => ?_)
      refine v_load rfl rfl ⟨rfl, Nat.le_of_ble_eq_true rfl⟩ ?_
      refine v_push rfl ?_
      refine v_ine rfl (fun h => absurd h (by omega)) (fun _ => ?_)
      refine v_load rfl rfl ⟨rfl, Nat.le_of_ble_eq_true rfl⟩ ?_
      refine v_load rfl rfl ⟨rfl, Nat.le_of_ble_eq_true rfl⟩ ?_
      refine v_callr rfl ⟨Nat.le_of_ble_eq_true rfl, Nat.le_of_ble_eq_true rfl, rfl, Nat.le_of_ble_eq_true rfl, rfl⟩ ?_
      refine R_lastChild hS hP (by omega) ?_
      refine v_goto rfl ?_
      refine v_ret rfl rfl ?_
      rw [← e]; exact k
    · subst e
      have k : Q (some (0, kid t (nd (NT (toks t)) m).2.1 0)) M := k
      rw [kid_0 hP.1 (by omega)] at k
      refine v_load rfl rfl ⟨rfl, Nat.le_of_ble_eq_true rfl⟩ ?_
      refine v_getp rfl rfl rfl ?_
      refine v_load rfl rfl ⟨rfl, Nat.le_of_ble_eq_true rfl⟩ ?_
      refine v_ald9 rfl rfl ⟨by omega, by show _ < (1600 : Int); omega⟩ ?_
      rw [r1]
      refine v_push rfl ?_
      refine v_ine rfl (fun _ => ?_) (fun h => absurd h (by omega))
      refine v_load rfl rfl ⟨rfl, Nat.le_of_ble_eq_true rfl⟩ ?_
      refine v_getp rfl rfl rfl ?_
      refine v_load rfl rfl ⟨rfl, Nat.le_of_ble_eq_true rfl⟩ ?_
      refine v_ald9 rfl rfl ⟨by omega, by show _ < (1600 : Int); omega⟩ ?_
      rw [r1]
      refine v_push rfl ?_
      refine v_ine rfl (fun h => absurd h (by omega)) (fun _ => ?_)
      refine v_load rfl rfl ⟨rfl, Nat.le_of_ble_eq_true rfl⟩ ?_
      refine v_push rfl ?_
      refine v_ieq rfl (fun h => absurd h (by omega)) (fun _ => ?_)
      refine v_load rfl rfl ⟨rfl, Nat.le_of_ble_eq_true rfl⟩ ?_
      refine v_push rfl ?_
      refine v_ine rfl (fun _ => ?_) (fun h => absurd h (by omega))
      refine v_load rfl rfl ⟨rfl, Nat.le_of_ble_eq_true rfl⟩ ?_
      refine v_push rfl ?_
      refine v_add rfl (by omega) ?_
      refine v_ret rfl rfl ?_
      exact k
    · refine v_load rfl rfl ⟨rfl, Nat.le_of_ble_eq_true rfl⟩ ?_
      refine v_getp rfl rfl rfl ?_
      refine v_load rfl rfl ⟨rfl, Nat.le_of_ble_eq_true rfl⟩ ?_
      refine v_ald9 rfl rfl ⟨by omega, by show _ < (1600 : Int); omega⟩ ?_
      rw [r1]
      refine v_push rfl ?_
      refine v_ine rfl (fun _ => ?_) (fun h => absurd h (by omega))
      refine v_load rfl rfl ⟨rfl, Nat.le_of_ble_eq_true rfl⟩ ?_
      refine v_getp rfl rfl rfl ?_
      refine v_load rfl rfl ⟨rfl, Nat.le_of_ble_eq_true rfl⟩ ?_
      refine v_ald9 rfl rfl ⟨by omega, by show _ < (1600 : Int); omega⟩ ?_
      rw [r1]
      refine v_push rfl ?_
      refine v_ine rfl (fun _ => ?_) (fun h => absurd h (by omega))
      refine v_load rfl rfl ⟨rfl, Nat.le_of_ble_eq_true rfl⟩ ?_
      refine v_getp rfl rfl rfl ?_
      refine v_load rfl rfl ⟨rfl, Nat.le_of_ble_eq_true rfl⟩ ?_
      refine v_ald9 rfl rfl ⟨by omega, by show _ < (1600 : Int); omega⟩ ?_
      rw [r1]
      refine v_push rfl ?_
      refine v_ine rfl (fun h => absurd h (by omega)) (fun _ => ?_)
      refine v_load rfl rfl ⟨rfl, Nat.le_of_ble_eq_true rfl⟩ ?_
      refine v_push rfl ?_
      refine v_ine rfl (fun _ => ?_) (fun h => absurd h (by omega))
      refine v_load rfl rfl ⟨rfl, Nat.le_of_ble_eq_true rfl⟩ ?_
      refine v_push rfl ?_
      refine v_ine rfl (fun h => absurd h (by omega)) (fun _ => ?_)
      refine v_load rfl rfl ⟨rfl, Nat.le_of_ble_eq_true rfl⟩ ?_
      refine v_load rfl rfl ⟨rfl, Nat.le_of_ble_eq_true rfl⟩ ?_
      refine v_load rfl rfl ⟨rfl, Nat.le_of_ble_eq_true rfl⟩ ?_
      refine v_getp rfl rfl rfl ?_
      refine v_load rfl rfl ⟨rfl, Nat.le_of_ble_eq_true rfl⟩ ?_
      refine v_ald9 rfl rfl ⟨by omega, by show _ < (1600 : Int); omega⟩ ?_
      rw [r3]
      refine v_push rfl ?_
      refine v_sub rfl (by omega) ?_
      refine v_callr rfl ⟨Nat.le_of_ble_eq_true rfl, Nat.le_of_ble_eq_true rfl, rfl, Nat.le_of_ble_eq_true rfl, rfl⟩ ?_
      refine R_childOf hS hP ⟨by omega, by omega⟩ ?_
      refine v_goto rfl ?_
      refine v_ret rfl rfl ?_
      rw [← e]; exact k
    · subst e
      have k : Q (some (0, kid t (nd (NT (toks t)) m).2.1 1)) M := k
      have q1 : (1 : Int) < (nd (NT (toks t)) (nd (NT (toks t)) m).2.1).2.2.1 := q1
      refine v_load rfl rfl ⟨rfl, Nat.le_of_ble_eq_true rfl⟩ ?_
      refine v_getp rfl rfl rfl ?_
      refine v_load rfl rfl ⟨rfl, Nat.le_of_ble_eq_true rfl⟩ ?_
      refine v_ald9 rfl rfl ⟨by omega, by show _ < (1600 : Int); omega⟩ ?_
      rw [r1]
      refine v_push rfl ?_
      refine v_ine rfl (fun _ => ?_) (fun h => absurd h (by omega))
      refine v_load rfl rfl ⟨rfl, Nat.le_of_ble_eq_true rfl⟩ ?_
      refine v_getp rfl rfl rfl ?_
      refine v_load rfl rfl ⟨rfl, Nat.le_of_ble_eq_true rfl⟩ ?_
      refine v_ald9 rfl rfl ⟨by omega, by show _ < (1600 : Int); omega⟩ ?_
      rw [r1]
      refine v_push rfl ?_
      refine v_ine rfl (fun _ => ?_) (fun h => absurd h (by omega))
      refine v_load rfl rfl ⟨rfl, Nat.le_of_ble_eq_true rfl⟩ ?_
      refine v_getp rfl rfl rfl ?_
      refine v_load rfl rfl ⟨rfl, Nat.le_of_ble_eq_true rfl⟩ ?_
      refine v_ald9 rfl rfl ⟨by omega, by show _ < (1600 : Int); omega⟩ ?_
      rw [r1]
      refine v_push rfl ?_
      refine v_ine rfl (fun h => absurd h (by omega)) (fun _ => ?_)
      refine v_load rfl rfl ⟨rfl, Nat.le_of_ble_eq_true rfl⟩ ?_
      refine v_push rfl ?_
      refine v_ine rfl (fun _ => ?_) (fun h => absurd h (by omega))
      refine v_load rfl rfl ⟨rfl, Nat.le_of_ble_eq_true rfl⟩ ?_
      refine v_push rfl ?_
      refine v_ine rfl (fun _ => ?_) (fun h => absurd h (by omega))
      refine v_load rfl rfl ⟨rfl, Nat.le_of_ble_eq_true rfl⟩ ?_
      refine v_load rfl rfl ⟨rfl, Nat.le_of_ble_eq_true rfl⟩ ?_
      refine v_push rfl ?_
      refine v_callr rfl ⟨Nat.le_of_ble_eq_true rfl, Nat.le_of_ble_eq_true rfl, rfl, Nat.le_of_ble_eq_true rfl, rfl⟩ ?_
      refine R_childOf hS hP ⟨by omega, by omega⟩ ?_
      refine v_ret rfl rfl ?_
      exact k
theorem mtN_rng {m : Int} (hm : 0 ≤ m ∧ m < ((NT (toks t)).length : Int)) (h16 : (nd (NT (toks t)) m).1 = 16) : mtN t m = -1 ∨ (0 ≤ mtN t m ∧ mtN t m < ((NT (toks t)).length : Int)) := by
  have l := leaf1 hm (by omega)
  rcases MATE ⟨l.1, hm.2⟩ h16 with ⟨z, -⟩ | ⟨kk, q1, q2, q3, q4⟩
  · left; unfold mtN; rw [if_pos z]
  · obtain ⟨e1, e2, e3, e4⟩ := mt_eq q1 q4
    right
    have u := up_in (t := t) (y := m) ⟨l.1, hm.2⟩
    have := kid_in (t := t) (i := (nd (NT (toks t)) m).2.1) (k := (kk : Int)) ⟨by omega, q1⟩
    rw [e3]
    omega
theorem R_match {p : Int} (hC : RS s M) (k : Q (some (0, matchQ s p)) M) : v_call L (d + 10) 277 [(2, 77), (0, p)] M Q := by
  have hS := hC.1
  have h4 := hS.1.1
  have hl := hS.1.2.1
  have hlN := NT_1216 hS
  have hlT := hS.2.1.2.1
  have hr := hld_rng (t := s.1.1) (p := p)
  unfold matchQ at k
  refine v_in ?_
  by_cases c : 0 ≤ p ∧ p ≤ (s.1.1.length : Int) - 1
  · by_cases c0 : hld s.1.1 p = -1
    · rw [if_neg (fun z => z.1 c0)] at k
      refine v_load rfl rfl ⟨rfl, Nat.le_of_ble_eq_true rfl⟩ ?_
      refine v_push rfl ?_
      refine v_load rfl rfl ⟨rfl, Nat.le_of_ble_eq_true rfl⟩ ?_
      refine v_getx rfl rfl (h4) ?_
      refine v_push rfl ?_
      refine v_sub rfl (by omega) ?_
      refine v_callr rfl ⟨Nat.le_of_ble_eq_true rfl, Nat.le_of_ble_eq_true rfl, rfl, Nat.le_of_ble_eq_true rfl, rfl⟩ ?_
      refine R_in ?_
      rw [b2i_t (decide_eq_true c)]
      refine v_ifne rfl (fun _ => ?_) (fun h => absurd h (by decide))
      refine v_load rfl rfl ⟨rfl, Nat.le_of_ble_eq_true rfl⟩ ?_
      refine v_load rfl rfl ⟨rfl, Nat.le_of_ble_eq_true rfl⟩ ?_
      refine v_callr rfl ⟨Nat.le_of_ble_eq_true rfl, Nat.le_of_ble_eq_true rfl, rfl, Nat.le_of_ble_eq_true rfl, rfl⟩ ?_
      refine R_tokenWith hS ?_
      rw [if_pos c0]
      refine v_store rfl ⟨rfl, Nat.le_of_ble_eq_true rfl, Nat.le_of_ble_eq_true rfl, rfl⟩ rfl ?_
      refine v_load rfl rfl ⟨rfl, Nat.le_of_ble_eq_true rfl⟩ ?_
      refine v_push rfl ?_
      refine v_ieq rfl (fun _ => ?_) (fun h => absurd h (by omega))
      refine v_push rfl ?_
      refine v_ret rfl rfl ?_
      exact k
    · have hm0 := lf_sp (t := s.1.1) (j := hld s.1.1 p) ⟨by omega, hr.2⟩
      have g111 := hS.2.2.1.2.2 (hld s.1.1 p) (by omega) hr.2
      generalize hg : lf (NT (toks s.1.1)) (hld s.1.1 p) = m at *
      have hm : 0 ≤ m ∧ m < ((NT (toks s.1.1)).length : Int) := ⟨hm0.1, hm0.2.1⟩
      have g1 := (TM_nd hS hm).1
      by_cases c1 : (nd (NT (toks s.1.1)) m).1 = 16
      · rw [if_pos ⟨c0, c1⟩] at k
        unfold mtR at k
        have go : v_wp L (d + 10) 277 46 [(2, 77), (0, p), (0, hld s.1.1 p), (9, 0)] [] M Q := by
          rcases mtN_rng hm c1 with z | z
          · rw [if_pos z] at k
            refine v_load rfl rfl ⟨rfl, Nat.le_of_ble_eq_true rfl⟩ ?_
            refine v_load rfl rfl ⟨rfl, Nat.le_of_ble_eq_true rfl⟩ ?_
            refine v_getp rfl rfl rfl ?_
            refine v_load rfl rfl ⟨rfl, Nat.le_of_ble_eq_true rfl⟩ ?_
            refine v_ald9 rfl rfl ⟨by omega, by show _ < (300 : Int); omega⟩ ?_
            rw [g111]
            refine v_callr rfl ⟨Nat.le_of_ble_eq_true rfl, Nat.le_of_ble_eq_true rfl, rfl, Nat.le_of_ble_eq_true rfl, rfl⟩ ?_
            refine R_mateOf hS hm c1 ?_
            refine v_store rfl ⟨rfl, Nat.le_of_ble_eq_true rfl, Nat.le_of_ble_eq_true rfl, rfl⟩ rfl ?_
            refine v_load rfl rfl ⟨rfl, Nat.le_of_ble_eq_true rfl⟩ ?_
            refine v_push rfl ?_
            refine v_ine rfl (fun h => absurd h (by omega)) (fun _ => ?_)
            refine v_push rfl ?_
            refine v_ret rfl rfl ?_
            exact k
          · rw [if_neg (by omega)] at k
            have r1 := (TM_nd hS z).1
            by_cases c2 : (nd (NT (toks s.1.1)) (mtN s.1.1 m)).1 = 17
            · rw [if_pos c2] at k
              refine v_load rfl rfl ⟨rfl, Nat.le_of_ble_eq_true rfl⟩ ?_
              refine v_load rfl rfl ⟨rfl, Nat.le_of_ble_eq_true rfl⟩ ?_
              refine v_getp rfl rfl rfl ?_
              refine v_load rfl rfl ⟨rfl, Nat.le_of_ble_eq_true rfl⟩ ?_
              refine v_ald9 rfl rfl ⟨by omega, by show _ < (300 : Int); omega⟩ ?_
              rw [g111]
              refine v_callr rfl ⟨Nat.le_of_ble_eq_true rfl, Nat.le_of_ble_eq_true rfl, rfl, Nat.le_of_ble_eq_true rfl, rfl⟩ ?_
              refine R_mateOf hS hm c1 ?_
              refine v_store rfl ⟨rfl, Nat.le_of_ble_eq_true rfl, Nat.le_of_ble_eq_true rfl, rfl⟩ rfl ?_
              refine v_load rfl rfl ⟨rfl, Nat.le_of_ble_eq_true rfl⟩ ?_
              refine v_push rfl ?_
              refine v_ine rfl (fun _ => ?_) (fun h => absurd h (by omega))
              refine v_load rfl rfl ⟨rfl, Nat.le_of_ble_eq_true rfl⟩ ?_
              refine v_getp rfl rfl rfl ?_
              refine v_load rfl rfl ⟨rfl, Nat.le_of_ble_eq_true rfl⟩ ?_
              refine v_ald9 rfl rfl ⟨by omega, by show _ < (1600 : Int); omega⟩ ?_
              rw [r1]
              refine v_push rfl ?_
              refine v_ine rfl (fun h => absurd h (by omega)) (fun _ => ?_)
              refine v_push rfl ?_
              refine v_goto rfl ?_
              refine v_ret rfl rfl ?_
              exact k
            · rw [if_neg c2] at k
              refine v_load rfl rfl ⟨rfl, Nat.le_of_ble_eq_true rfl⟩ ?_
              refine v_load rfl rfl ⟨rfl, Nat.le_of_ble_eq_true rfl⟩ ?_
              refine v_getp rfl rfl rfl ?_
              refine v_load rfl rfl ⟨rfl, Nat.le_of_ble_eq_true rfl⟩ ?_
              refine v_ald9 rfl rfl ⟨by omega, by show _ < (300 : Int); omega⟩ ?_
              rw [g111]
              refine v_callr rfl ⟨Nat.le_of_ble_eq_true rfl, Nat.le_of_ble_eq_true rfl, rfl, Nat.le_of_ble_eq_true rfl, rfl⟩ ?_
              refine R_mateOf hS hm c1 ?_
              refine v_store rfl ⟨rfl, Nat.le_of_ble_eq_true rfl, Nat.le_of_ble_eq_true rfl, rfl⟩ rfl ?_
              refine v_load rfl rfl ⟨rfl, Nat.le_of_ble_eq_true rfl⟩ ?_
              refine v_push rfl ?_
              refine v_ine rfl (fun _ => ?_) (fun h => absurd h (by omega))
              refine v_load rfl rfl ⟨rfl, Nat.le_of_ble_eq_true rfl⟩ ?_
              refine v_getp rfl rfl rfl ?_
              refine v_load rfl rfl ⟨rfl, Nat.le_of_ble_eq_true rfl⟩ ?_
              refine v_ald9 rfl rfl ⟨by omega, by show _ < (1600 : Int); omega⟩ ?_
              rw [r1]
              refine v_push rfl ?_
              refine v_ine rfl (fun _ => ?_) (fun h => absurd h (by omega))
              refine v_load rfl rfl ⟨rfl, Nat.le_of_ble_eq_true rfl⟩ ?_
              refine v_load rfl rfl ⟨rfl, Nat.le_of_ble_eq_true rfl⟩ ?_
              refine v_callr rfl ⟨Nat.le_of_ble_eq_true rfl, Nat.le_of_ble_eq_true rfl, rfl, Nat.le_of_ble_eq_true rfl, rfl⟩ ?_
              refine R_from hS z ?_
              refine v_ret rfl rfl ?_
              exact k
        refine v_load rfl rfl ⟨rfl, Nat.le_of_ble_eq_true rfl⟩ ?_
        refine v_push rfl ?_
        refine v_load rfl rfl ⟨rfl, Nat.le_of_ble_eq_true rfl⟩ ?_
        refine v_getx rfl rfl (h4) ?_
        refine v_push rfl ?_
        refine v_sub rfl (by omega) ?_
        refine v_callr rfl ⟨Nat.le_of_ble_eq_true rfl, Nat.le_of_ble_eq_true rfl, rfl, Nat.le_of_ble_eq_true rfl, rfl⟩ ?_
        refine R_in ?_
        rw [b2i_t (decide_eq_true c)]
        refine v_ifne rfl (fun _ => ?_) (fun h => absurd h (by decide))
        refine v_load rfl rfl ⟨rfl, Nat.le_of_ble_eq_true rfl⟩ ?_
        refine v_load rfl rfl ⟨rfl, Nat.le_of_ble_eq_true rfl⟩ ?_
        refine v_callr rfl ⟨Nat.le_of_ble_eq_true rfl, Nat.le_of_ble_eq_true rfl, rfl, Nat.le_of_ble_eq_true rfl, rfl⟩ ?_
        refine R_tokenWith hS ?_
        rw [if_neg c0]
        refine v_store rfl ⟨rfl, Nat.le_of_ble_eq_true rfl, Nat.le_of_ble_eq_true rfl, rfl⟩ rfl ?_
        refine v_load rfl rfl ⟨rfl, Nat.le_of_ble_eq_true rfl⟩ ?_
        refine v_push rfl ?_
        refine v_ieq rfl (fun h => absurd h (by omega)) (fun _ => ?_)
        refine v_load rfl rfl ⟨rfl, Nat.le_of_ble_eq_true rfl⟩ ?_
        refine v_getp rfl rfl rfl ?_
        refine v_load rfl rfl ⟨rfl, Nat.le_of_ble_eq_true rfl⟩ ?_
        refine v_getp rfl rfl rfl ?_
        refine v_load rfl rfl ⟨rfl, Nat.le_of_ble_eq_true rfl⟩ ?_
        refine v_ald9 rfl rfl ⟨by omega, by show _ < (300 : Int); omega⟩ ?_
        rw [g111]
        refine v_ald9 rfl rfl ⟨by omega, by show _ < (1600 : Int); omega⟩ ?_
        rw [g1]
        refine v_push rfl ?_
        refine v_ieq rfl (fun _ => ?_) (fun h => absurd h (by omega))
        exact go
      · rw [if_neg (fun z => c1 z.2)] at k
        refine v_load rfl rfl ⟨rfl, Nat.le_of_ble_eq_true rfl⟩ ?_
        refine v_push rfl ?_
        refine v_load rfl rfl ⟨rfl, Nat.le_of_ble_eq_true rfl⟩ ?_
        refine v_getx rfl rfl (h4) ?_
        refine v_push rfl ?_
        refine v_sub rfl (by omega) ?_
        refine v_callr rfl ⟨Nat.le_of_ble_eq_true rfl, Nat.le_of_ble_eq_true rfl, rfl, Nat.le_of_ble_eq_true rfl, rfl⟩ ?_
        refine R_in ?_
        rw [b2i_t (decide_eq_true c)]
        refine v_ifne rfl (fun _ => ?_) (fun h => absurd h (by decide))
        refine v_load rfl rfl ⟨rfl, Nat.le_of_ble_eq_true rfl⟩ ?_
        refine v_load rfl rfl ⟨rfl, Nat.le_of_ble_eq_true rfl⟩ ?_
        refine v_callr rfl ⟨Nat.le_of_ble_eq_true rfl, Nat.le_of_ble_eq_true rfl, rfl, Nat.le_of_ble_eq_true rfl, rfl⟩ ?_
        refine R_tokenWith hS ?_
        rw [if_neg c0]
        refine v_store rfl ⟨rfl, Nat.le_of_ble_eq_true rfl, Nat.le_of_ble_eq_true rfl, rfl⟩ rfl ?_
        refine v_load rfl rfl ⟨rfl, Nat.le_of_ble_eq_true rfl⟩ ?_
        refine v_push rfl ?_
        refine v_ieq rfl (fun h => absurd h (by omega)) (fun _ => ?_)
        refine v_load rfl rfl ⟨rfl, Nat.le_of_ble_eq_true rfl⟩ ?_
        refine v_getp rfl rfl rfl ?_
        refine v_load rfl rfl ⟨rfl, Nat.le_of_ble_eq_true rfl⟩ ?_
        refine v_getp rfl rfl rfl ?_
        refine v_load rfl rfl ⟨rfl, Nat.le_of_ble_eq_true rfl⟩ ?_
        refine v_ald9 rfl rfl ⟨by omega, by show _ < (300 : Int); omega⟩ ?_
        rw [g111]
        refine v_ald9 rfl rfl ⟨by omega, by show _ < (1600 : Int); omega⟩ ?_
        rw [g1]
        refine v_push rfl ?_
        refine v_ieq rfl (fun h => absurd h (by omega)) (fun _ => ?_)
        refine v_push rfl ?_
        refine v_ret rfl rfl ?_
        exact k
  · rw [if_neg (fun z => z.1 (hld_out (by omega)))] at k
    refine v_load rfl rfl ⟨rfl, Nat.le_of_ble_eq_true rfl⟩ ?_
    refine v_push rfl ?_
    refine v_load rfl rfl ⟨rfl, Nat.le_of_ble_eq_true rfl⟩ ?_
    refine v_getx rfl rfl (h4) ?_
    refine v_push rfl ?_
    refine v_sub rfl (by omega) ?_
    refine v_callr rfl ⟨Nat.le_of_ble_eq_true rfl, Nat.le_of_ble_eq_true rfl, rfl, Nat.le_of_ble_eq_true rfl, rfl⟩ ?_
    refine R_in ?_
    rw [b2i_f (by simpa using c)]
    refine v_ifne rfl (fun h => absurd h (by decide)) (fun _ => ?_)
    refine v_push rfl ?_
    refine v_ret rfl rfl ?_
    exact k
end QI
