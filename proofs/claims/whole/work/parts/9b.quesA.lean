/-! QUESTIONS: dirty, wrong, told -/
/-- an inner node and its children's heads -/
theorem SHP {t : List Int} {i : Int} (hi : 0 < i ∧ i < ((NT (toks t)).length : Int)) (hk : 0 < (nd (NT (toks t)) i).2.2.1) : ∃ hs : List zN, (hs.length : Int) = (nd (NT (toks t)) i).2.2.1 ∧ shp (toks t) (nd (NT (toks t)) i).1 (nd (NT (toks t)) i).2.2.2.2.2.1 hs ∧ ∀ k : Nat, k < hs.length → qN (nd (NT (toks t)) (kid t i (k : Int))) = hs.getD k (0, 0, 0, 0, 0, 0) := by
  have hi' : 0 ≤ i ∧ i < ((NT (toks t)).length : Int) := ⟨by omega, hi.2⟩
  obtain ⟨cs, hw, h2, h3, h4, h5, h6⟩ := NT_nod (tkOK_toks t) (i := i.toNat) (by omega)
  have e2 : (nd (NT (toks t)) i).2.2.1 = (cs.length : Int) := by rw [nd_in hi', h2]
  rcases h6 with ⟨e, -⟩ | ⟨-, e, -⟩ | ⟨-, e, -⟩ | ⟨-, -, e, -⟩
  · omega
  · subst e; rw [e2] at hk; exact absurd hk (by decide)
  · subst e; rw [e2] at hk; exact absurd hk (by decide)
  · refine ⟨cs.map hdN, by rw [List.length_map, e2], by rw [nd_in hi']; exact e, fun k hk => ?_⟩
    rw [List.length_map] at hk
    obtain ⟨a1, -, -, -, a5, -⟩ := row_lay hw _ _ _ _ h4 k hk
    unfold kid
    rw [if_pos ⟨by omega, by omega⟩, Int.toNat_natCast, nd_nat (by omega), a5, hd_map hk]
theorem inner {t : List Int} {i : Int} (hi : 0 ≤ i ∧ i < ((NT (toks t)).length : Int)) (hs : ¬ ((nd (NT (toks t)) i).1 = 0 ∨ (nd (NT (toks t)) i).1 = 8 ∨ (nd (NT (toks t)) i).1 = 9 ∨ (12 ≤ (nd (NT (toks t)) i).1 ∧ (nd (NT (toks t)) i).1 ≤ 14) ∨ (nd (NT (toks t)) i).1 = 16 ∨ (nd (NT (toks t)) i).1 = 17)) : 0 < i ∧ 0 < (nd (NT (toks t)) i).2.2.1 := by
  obtain ⟨cs, hw, h2, h3, h4, h5, h6⟩ := NT_nod (tkOK_toks t) (i := i.toNat) (by omega)
  rw [nd_in hi] at hs ⊢
  rw [h2]
  rcases h6 with ⟨-, e, -⟩ | ⟨-, -, e, -⟩ | ⟨-, -, e, -⟩ | ⟨e0, e, -⟩
  · rw [e] at hs; exact absurd (Or.inl rfl) hs
  · unfold lfs at e; omega
  · omega
  · have := List.length_pos_iff.mpr e; omega
theorem sort_in {t : List Int} {i : Int} (h : 0 ≤ (nd (NT (toks t)) i).1) : 0 ≤ i ∧ i < ((NT (toks t)).length : Int) := by
  by_cases c : 0 ≤ i ∧ i < ((NT (toks t)).length : Int)
  · exact c
  · rw [nd_out c] at h; exact absurd h (by decide)
theorem kid_0 {t : List Int} {i : Int} (hi : 0 ≤ i) (h : 0 < (nd (NT (toks t)) i).2.2.1) : kid t i 0 = i + 1 := by
  unfold kid
  rw [if_pos ⟨Int.le_refl _, h⟩]
  show ((i.toNat + 1 : Nat) : Int) = _
  omega
theorem set_kid {t : List Int} {i : Int} (h : (nd (NT (toks t)) i).1 = 2) : 0 < i ∧ i + 1 < ((NT (toks t)).length : Int) ∧ (nd (NT (toks t)) (i + 1)).1 = 12 ∧ (nd (NT (toks t)) (i + 1)).2.2.2.2.2.1 = (nd (NT (toks t)) i).2.2.2.2.2.1 := by
  have hi := sort_in (t := t) (i := i) (by omega)
  have hn := inner hi (by omega)
  obtain ⟨hs, h1, h2, h3⟩ := SHP ⟨hn.1, hi.2⟩ hn.2
  have hk := kid_in (t := t) (i := i) (k := 0) ⟨Int.le_refl _, hn.2⟩
  have e0 := h3 0 (by omega)
  have e0 : qN (nd (NT (toks t)) (kid t i 0)) = hs.getD 0 (0, 0, 0, 0, 0, 0) := e0
  rw [kid_0 hi.1 hn.2] at e0 hk
  unfold shp at h2
  rw [h] at h2
  have : ∃ e c, hs = [hdN (lfN 12 (nd (NT (toks t)) i).2.2.2.2.2.1 1 0), hdN (lfN 16 ((nd (NT (toks t)) i).2.2.2.2.2.1 + 1) 1 0), e, c] := by
    rcases h2 with ⟨e, -⟩ | ⟨-, x, y, e, -⟩ | ⟨e, -⟩ | ⟨e, -⟩ | ⟨e, -⟩ | ⟨e, -⟩ | ⟨e, -⟩ | ⟨e, -⟩
    · exact absurd e (by decide)
    · exact ⟨x, y, e⟩
    · exact absurd e (by decide)
    · exact absurd e (by decide)
    · exact absurd e (by decide)
    · omega
    · omega
    · exact absurd e (by decide)
  obtain ⟨x, y, e⟩ := this
  rw [e] at e0
  have q1 : (qN (nd (NT (toks t)) (i + 1))).1 = 12 := by rw [e0]; rfl
  have q4 : (qN (nd (NT (toks t)) (i + 1))).2.2.2.1 = (nd (NT (toks t)) i).2.2.2.2.2.1 := by rw [e0]; rfl
  exact ⟨hn.1, hk.2.1, q1, q4⟩
theorem hl_rng (p : Nat → Bool) : ∀ n : Nat, (-1 ≤ hdI (flt p n) ∧ hdI (flt p n) < (n : Int)) ∧ (-1 ≤ ltI (flt p n) ∧ ltI (flt p n) < (n : Int)) ∧ (flt p n = [] → hdI (flt p n) = -1 ∧ ltI (flt p n) = -1) ∧ (flt p n ≠ [] → 0 ≤ hdI (flt p n) ∧ 0 ≤ ltI (flt p n))
  | 0 => ⟨⟨Int.le_refl _, by show (-1 : Int) < 0; decide⟩, ⟨Int.le_refl _, by show (-1 : Int) < 0; decide⟩, fun _ => ⟨rfl, rfl⟩, fun h => absurd rfl h⟩
  | n + 1 => by
    obtain ⟨h1, h2, h3, h4⟩ := hl_rng p n
    by_cases c : p n = true
    · rw [flt_y c, hdI_snoc, ltI_snoc]
      refine ⟨?_, by omega, fun z => absurd z (by simp), fun _ => ⟨?_, by omega⟩⟩
      · split <;> omega
      · split
        · omega
        · next z => exact (h4 z).1
    · rw [flt_n c]
      exact ⟨by omega, by omega, h3, h4⟩
section QA
variable {L d n : Nat} {M : zM} {Q : Option zV → zM → Prop} {s : zA} {t : List Int}
/-- dirty -/
def dyP (O : Nat → Int) (i : Nat) : Bool := decide (O i = -1)
def dyA (O : Nat → Int) (n : Nat) (f : Int) : Int := if f = 0 then lck (hdI (flt (dyP O) n)) else if f = 1 then lck (ltI (flt (dyP O) n)) else if f = 2 then (n : Int) - cI (fun i => decide (O i ≠ -1)) n else if hdI (flt (dyP O) n) = -1 then 0 else ltI (flt (dyP O) n) - hdI (flt (dyP O) n) + 1
noncomputable def dirtyQ (s : zA) (f : Int) : Int := if 0 ≤ f ∧ f ≤ 3 then dyA s.2.2.1.1 (toks s.1.1).length f else -1
theorem S_dirty_loop {f : Int} {O : Nat → Int} {Kp : Nat → Bool} {Ls : Int → Int} {nN : Nat} (hf : 0 ≤ f ∧ f ≤ 3) (hR : RT (toks t) M) (hK : KPC O Kp Ls (toks t).length nN M) (k : Q (some (0, dyA O (toks t).length f)) M) : ∀ (n j : Nat), n = (toks t).length - j → j ≤ (toks t).length → v_wp L (d + 4) 162 18 [(2, 1), (0, f), (0, hdI (flt (dyP O) j)), (0, ltI (flt (dyP O) j)), (0, (j : Int))] [] M Q := by
  intro n
  have hl : (toks t).length ≤ 300 := hR.2.1
  induction n with
  | zero =>
    intro j hn hj
    have ej : j = (toks t).length := by omega
    subst ej
    have hr := hl_rng (dyP O) (toks t).length
    have hc := cI_nn (fun i => decide (O i ≠ -1)) (toks t).length
    unfold dyA at k
    have : f = 0 ∨ f = 1 ∨ f = 2 ∨ f = 3 := by omega
    rcases this with rfl | rfl | rfl | rfl
    · refine v_load rfl rfl ⟨rfl, Nat.le_of_ble_eq_true rfl⟩ ?_
      refine v_load rfl rfl ⟨rfl, Nat.le_of_ble_eq_true rfl⟩ ?_
      refine v_getp rfl rfl rfl ?_
      refine v_callr rfl ⟨Nat.le_of_ble_eq_true rfl, Nat.le_of_ble_eq_true rfl, rfl, Nat.le_of_ble_eq_true rfl, rfl⟩ ?_
      refine S_tkSize hR ?_
      refine v_ige rfl (fun _ => ?_) (fun h => absurd h (by omega))
      refine v_load rfl rfl ⟨rfl, Nat.le_of_ble_eq_true rfl⟩ ?_
      refine v_tsw rfl ?_
      refine v_load rfl rfl ⟨rfl, Nat.le_of_ble_eq_true rfl⟩ ?_
      refine v_callr rfl ⟨Nat.le_of_ble_eq_true rfl, Nat.le_of_ble_eq_true rfl, rfl, Nat.le_of_ble_eq_true rfl, rfl⟩ ?_
      refine S_orLacking ?_
      refine v_ret rfl rfl ?_
      exact k
    · refine v_load rfl rfl ⟨rfl, Nat.le_of_ble_eq_true rfl⟩ ?_
      refine v_load rfl rfl ⟨rfl, Nat.le_of_ble_eq_true rfl⟩ ?_
      refine v_getp rfl rfl rfl ?_
      refine v_callr rfl ⟨Nat.le_of_ble_eq_true rfl, Nat.le_of_ble_eq_true rfl, rfl, Nat.le_of_ble_eq_true rfl, rfl⟩ ?_
      refine S_tkSize hR ?_
      refine v_ige rfl (fun _ => ?_) (fun h => absurd h (by omega))
      refine v_load rfl rfl ⟨rfl, Nat.le_of_ble_eq_true rfl⟩ ?_
      refine v_tsw rfl ?_
      refine v_load rfl rfl ⟨rfl, Nat.le_of_ble_eq_true rfl⟩ ?_
      refine v_callr rfl ⟨Nat.le_of_ble_eq_true rfl, Nat.le_of_ble_eq_true rfl, rfl, Nat.le_of_ble_eq_true rfl, rfl⟩ ?_
      refine S_orLacking ?_
      refine v_ret rfl rfl ?_
      exact k
    · refine v_load rfl rfl ⟨rfl, Nat.le_of_ble_eq_true rfl⟩ ?_
      refine v_load rfl rfl ⟨rfl, Nat.le_of_ble_eq_true rfl⟩ ?_
      refine v_getp rfl rfl rfl ?_
      refine v_callr rfl ⟨Nat.le_of_ble_eq_true rfl, Nat.le_of_ble_eq_true rfl, rfl, Nat.le_of_ble_eq_true rfl, rfl⟩ ?_
      refine S_tkSize hR ?_
      refine v_ige rfl (fun _ => ?_) (fun h => absurd h (by omega))
      refine v_load rfl rfl ⟨rfl, Nat.le_of_ble_eq_true rfl⟩ ?_
      refine v_tsw rfl ?_
      refine v_load rfl rfl ⟨rfl, Nat.le_of_ble_eq_true rfl⟩ ?_
      refine v_getp rfl rfl rfl ?_
      refine v_callr rfl ⟨Nat.le_of_ble_eq_true rfl, Nat.le_of_ble_eq_true rfl, rfl, Nat.le_of_ble_eq_true rfl, rfl⟩ ?_
      refine S_tkSize hR ?_
      refine v_load rfl rfl ⟨rfl, Nat.le_of_ble_eq_true rfl⟩ ?_
      refine v_getp rfl rfl rfl ?_
      refine v_callr rfl ⟨Nat.le_of_ble_eq_true rfl, Nat.le_of_ble_eq_true rfl, rfl, Nat.le_of_ble_eq_true rfl, rfl⟩ ?_
      refine S_tokensKept hK ?_
      refine v_sub rfl (by omega) ?_
      refine v_ret rfl rfl ?_
      exact k
    · have k3 : Q (some (0, if hdI (flt (dyP O) (toks t).length) = -1 then 0 else ltI (flt (dyP O) (toks t).length) - hdI (flt (dyP O) (toks t).length) + 1)) M := k
      refine v_load rfl rfl ⟨rfl, Nat.le_of_ble_eq_true rfl⟩ ?_
      refine v_load rfl rfl ⟨rfl, Nat.le_of_ble_eq_true rfl⟩ ?_
      refine v_getp rfl rfl rfl ?_
      refine v_callr rfl ⟨Nat.le_of_ble_eq_true rfl, Nat.le_of_ble_eq_true rfl, rfl, Nat.le_of_ble_eq_true rfl, rfl⟩ ?_
      refine S_tkSize hR ?_
      refine v_ige rfl (fun _ => ?_) (fun h => absurd h (by omega))
      refine v_load rfl rfl ⟨rfl, Nat.le_of_ble_eq_true rfl⟩ ?_
      refine v_tsw rfl ?_
      refine v_load rfl rfl ⟨rfl, Nat.le_of_ble_eq_true rfl⟩ ?_
      refine v_push rfl ?_
      refine v_ine rfl (fun c1 => ?_) (fun c1 => ?_)
      · refine v_load rfl rfl ⟨rfl, Nat.le_of_ble_eq_true rfl⟩ ?_
        refine v_load rfl rfl ⟨rfl, Nat.le_of_ble_eq_true rfl⟩ ?_
        refine v_sub rfl (by omega) ?_
        refine v_push rfl ?_
        refine v_add rfl (by omega) ?_
        refine v_ret rfl rfl ?_
        rw [if_neg c1] at k3; exact k3
      · refine v_push rfl ?_
        refine v_goto rfl ?_
        refine v_ret rfl rfl ?_
        rw [if_pos (by omega)] at k3; exact k3
  | succ n ih =>
    intro j hn hj
    have ihh := ih (j + 1) (by omega) (by omega)
    have hr := hl_rng (dyP O) j
    rw [show ((j + 1 : Nat) : Int) = (j : Int) + 1 by omega] at ihh
    by_cases c : O j = -1
    · rw [flt_y (show dyP O j = true from decide_eq_true c), hdI_snoc, ltI_snoc] at ihh
      refine v_load rfl rfl ⟨rfl, Nat.le_of_ble_eq_true rfl⟩ ?_
      refine v_load rfl rfl ⟨rfl, Nat.le_of_ble_eq_true rfl⟩ ?_
      refine v_getp rfl rfl rfl ?_
      refine v_callr rfl ⟨Nat.le_of_ble_eq_true rfl, Nat.le_of_ble_eq_true rfl, rfl, Nat.le_of_ble_eq_true rfl, rfl⟩ ?_
      refine S_tkSize hR ?_
      refine v_ige rfl (fun h => absurd h (by omega)) (fun _ => ?_)
      refine v_load rfl rfl ⟨rfl, Nat.le_of_ble_eq_true rfl⟩ ?_
      refine v_getp rfl rfl rfl ?_
      refine v_load rfl rfl ⟨rfl, Nat.le_of_ble_eq_true rfl⟩ ?_
      refine v_callr rfl ⟨Nat.le_of_ble_eq_true rfl, Nat.le_of_ble_eq_true rfl, rfl, Nat.le_of_ble_eq_true rfl, rfl⟩ ?_
      refine S_isTokenKept hR hK.1 ⟨by omega, by omega⟩ ?_
      rw [Int.toNat_natCast, if_pos c]
      refine v_ifne rfl (fun h => absurd h (by decide)) (fun _ => ?_)
      refine v_load rfl rfl ⟨rfl, Nat.le_of_ble_eq_true rfl⟩ ?_
      refine v_push rfl ?_
      refine v_ine rfl (fun c1 => ?_) (fun c1 => ?_)
      · refine v_load rfl rfl ⟨rfl, Nat.le_of_ble_eq_true rfl⟩ ?_
        refine v_store rfl ⟨rfl, Nat.le_of_ble_eq_true rfl, Nat.le_of_ble_eq_true rfl, rfl⟩ rfl ?_
        refine v_load rfl rfl ⟨rfl, Nat.le_of_ble_eq_true rfl⟩ ?_
        refine v_store rfl ⟨rfl, Nat.le_of_ble_eq_true rfl, Nat.le_of_ble_eq_true rfl, rfl⟩ rfl ?_
        refine v_iinc rfl rfl rfl (by omega) rfl ?_
        refine v_goto rfl ?_
        rw [if_neg (fun z => c1 (hr.2.2.1 z).1)] at ihh; exact ihh
      · refine v_load rfl rfl ⟨rfl, Nat.le_of_ble_eq_true rfl⟩ ?_
        refine v_goto rfl ?_
        refine v_store rfl ⟨rfl, Nat.le_of_ble_eq_true rfl, Nat.le_of_ble_eq_true rfl, rfl⟩ rfl ?_
        refine v_load rfl rfl ⟨rfl, Nat.le_of_ble_eq_true rfl⟩ ?_
        refine v_store rfl ⟨rfl, Nat.le_of_ble_eq_true rfl, Nat.le_of_ble_eq_true rfl, rfl⟩ rfl ?_
        refine v_iinc rfl rfl rfl (by omega) rfl ?_
        refine v_goto rfl ?_
        rw [if_pos (by by_cases z : flt (dyP O) j = []; exact z; have := (hr.2.2.2 z).1; omega)] at ihh; exact ihh
    · rw [flt_n (show ¬ dyP O j = true from fun z => c (of_decide_eq_true z))] at ihh
      refine v_load rfl rfl ⟨rfl, Nat.le_of_ble_eq_true rfl⟩ ?_
      refine v_load rfl rfl ⟨rfl, Nat.le_of_ble_eq_true rfl⟩ ?_
      refine v_getp rfl rfl rfl ?_
      refine v_callr rfl ⟨Nat.le_of_ble_eq_true rfl, Nat.le_of_ble_eq_true rfl, rfl, Nat.le_of_ble_eq_true rfl, rfl⟩ ?_
      refine S_tkSize hR ?_
      refine v_ige rfl (fun h => absurd h (by omega)) (fun _ => ?_)
      refine v_load rfl rfl ⟨rfl, Nat.le_of_ble_eq_true rfl⟩ ?_
      refine v_getp rfl rfl rfl ?_
      refine v_load rfl rfl ⟨rfl, Nat.le_of_ble_eq_true rfl⟩ ?_
      refine v_callr rfl ⟨Nat.le_of_ble_eq_true rfl, Nat.le_of_ble_eq_true rfl, rfl, Nat.le_of_ble_eq_true rfl, rfl⟩ ?_
      refine S_isTokenKept hR hK.1 ⟨by omega, by omega⟩ ?_
      rw [Int.toNat_natCast, if_neg c]
      refine v_ifne rfl (fun _ => ?_) (fun h => absurd h (by decide))
      refine v_iinc rfl rfl rfl (by omega) rfl ?_
      refine v_goto rfl ?_
      exact ihh
theorem S_dirty {f : Int} (hC : CS s M) (k : Q (some (0, dirtyQ s f)) M) : v_call L (d + 10) 162 [(2, 1), (0, f)] M Q := by
  obtain ⟨-, -, -, -, h5, -, h7, -⟩ := id hC
  unfold dirtyQ at k
  refine v_in ?_
  by_cases c : 0 ≤ f ∧ f ≤ 3
  · rw [if_pos c] at k
    refine v_load rfl rfl ⟨rfl, Nat.le_of_ble_eq_true rfl⟩ ?_
    refine v_iflt rfl (fun h => absurd h (by omega)) (fun _ => ?_)
    refine v_load rfl rfl ⟨rfl, Nat.le_of_ble_eq_true rfl⟩ ?_
    refine v_push rfl ?_
    refine v_ile rfl (fun _ => ?_) (fun h => absurd h (by omega))
    refine v_push rfl ?_
    refine v_store rfl ⟨rfl, Nat.le_of_ble_eq_true rfl, Nat.le_of_ble_eq_true rfl, rfl⟩ rfl ?_
    refine v_push rfl ?_
    refine v_store rfl ⟨rfl, Nat.le_of_ble_eq_true rfl, Nat.le_of_ble_eq_true rfl, rfl⟩ rfl ?_
    refine v_push rfl ?_
    refine v_store rfl ⟨rfl, Nat.le_of_ble_eq_true rfl, Nat.le_of_ble_eq_true rfl, rfl⟩ rfl ?_
    exact S_dirty_loop (d := d + 6) c h5 h7 k _ 0 rfl (Nat.zero_le _)
  · rw [if_neg c] at k
    refine v_load rfl rfl ⟨rfl, Nat.le_of_ble_eq_true rfl⟩ ?_
    refine v_iflt rfl (fun c1 => ?_) (fun c1 => ?_)
    · refine v_push rfl ?_
      refine v_ret rfl rfl ?_
      first | exact k | (exfalso; omega)
    · refine v_load rfl rfl ⟨rfl, Nat.le_of_ble_eq_true rfl⟩ ?_
      refine v_push rfl ?_
      refine v_ile rfl (fun c2 => ?_) (fun c2 => ?_)
      · first | exact k | (exfalso; omega)
      · refine v_push rfl ?_
        refine v_ret rfl rfl ?_
        first | exact k | (exfalso; omega)
theorem R_dirty_loop {f : Int} {O : Nat → Int} {Kp : Nat → Bool} {Ls : Int → Int} {nN : Nat} (hS : RSt t M) (hK : KPR O Kp Ls (toks t).length nN M) (k : Q (some (0, if 0 ≤ f ∧ f ≤ 3 then dyA O (toks t).length f else -1)) M) : ∀ (n j : Nat), n = (toks t).length - j → j ≤ (toks t).length → v_wp L (d + 4) 293 9 [(2, 77), (0, f), (0, lck (hdI (flt (dyP O) j))), (0, lck (ltI (flt (dyP O) j))), (0, (j : Int))] [] M Q := by
  intro n
  have hR := hS.2.1
  have hl : (toks t).length ≤ 300 := hR.2.1
  have h10 := hR.1
  induction n with
  | zero =>
    intro j hn hj
    have ej : j = (toks t).length := by omega
    subst ej
    have hr := hl_rng (dyP O) (toks t).length
    have hc := cI_nn (fun i => decide (O i ≠ -1)) (toks t).length
    have h61 := hK.2.2.2.1
    by_cases cf : 0 ≤ f ∧ f ≤ 3
    · rw [if_pos cf] at k
      unfold dyA at k
      have : f = 0 ∨ f = 1 ∨ f = 2 ∨ f = 3 := by omega
      rcases this with rfl | rfl | rfl | rfl
      · refine v_load rfl rfl ⟨rfl, Nat.le_of_ble_eq_true rfl⟩ ?_
        refine v_load rfl rfl ⟨rfl, Nat.le_of_ble_eq_true rfl⟩ ?_
        refine v_getx rfl rfl (h10) ?_
        refine v_ige rfl (fun _ => ?_) (fun h => absurd h (by omega))
        refine v_load rfl rfl ⟨rfl, Nat.le_of_ble_eq_true rfl⟩ ?_
        refine v_tsw rfl ?_
        refine v_load rfl rfl ⟨rfl, Nat.le_of_ble_eq_true rfl⟩ ?_
        refine v_ret rfl rfl ?_
        exact k
      · refine v_load rfl rfl ⟨rfl, Nat.le_of_ble_eq_true rfl⟩ ?_
        refine v_load rfl rfl ⟨rfl, Nat.le_of_ble_eq_true rfl⟩ ?_
        refine v_getx rfl rfl (h10) ?_
        refine v_ige rfl (fun _ => ?_) (fun h => absurd h (by omega))
        refine v_load rfl rfl ⟨rfl, Nat.le_of_ble_eq_true rfl⟩ ?_
        refine v_tsw rfl ?_
        refine v_load rfl rfl ⟨rfl, Nat.le_of_ble_eq_true rfl⟩ ?_
        refine v_ret rfl rfl ?_
        exact k
      · refine v_load rfl rfl ⟨rfl, Nat.le_of_ble_eq_true rfl⟩ ?_
        refine v_load rfl rfl ⟨rfl, Nat.le_of_ble_eq_true rfl⟩ ?_
        refine v_getx rfl rfl (h10) ?_
        refine v_ige rfl (fun _ => ?_) (fun h => absurd h (by omega))
        refine v_load rfl rfl ⟨rfl, Nat.le_of_ble_eq_true rfl⟩ ?_
        refine v_tsw rfl ?_
        refine v_load rfl rfl ⟨rfl, Nat.le_of_ble_eq_true rfl⟩ ?_
        refine v_getx rfl rfl (h10) ?_
        refine v_load rfl rfl ⟨rfl, Nat.le_of_ble_eq_true rfl⟩ ?_
        refine v_getx rfl rfl (h61) ?_
        refine v_sub rfl (by omega) ?_
        refine v_ret rfl rfl ?_
        exact k
      · have k3 : Q (some (0, if hdI (flt (dyP O) (toks t).length) = -1 then 0 else ltI (flt (dyP O) (toks t).length) - hdI (flt (dyP O) (toks t).length) + 1)) M := k
        by_cases z : flt (dyP O) (toks t).length = []
        · rw [lck_m (hr.2.2.1 z).1]
          rw [if_pos (hr.2.2.1 z).1] at k3
          refine v_load rfl rfl ⟨rfl, Nat.le_of_ble_eq_true rfl⟩ ?_
          refine v_load rfl rfl ⟨rfl, Nat.le_of_ble_eq_true rfl⟩ ?_
          refine v_getx rfl rfl (h10) ?_
          refine v_ige rfl (fun _ => ?_) (fun h => absurd h (by omega))
          refine v_load rfl rfl ⟨rfl, Nat.le_of_ble_eq_true rfl⟩ ?_
          refine v_tsw rfl ?_
          refine v_load rfl rfl ⟨rfl, Nat.le_of_ble_eq_true rfl⟩ ?_
          refine v_push rfl ?_
          refine v_ine rfl (fun h => absurd h (by omega)) (fun _ => ?_)
          refine v_push rfl ?_
          refine v_goto rfl ?_
          refine v_ret rfl rfl ?_
          exact k3
        · have hz := hr.2.2.2 z
          rw [lck_i hz.1, lck_i hz.2]
          rw [if_neg (by omega)] at k3
          refine v_load rfl rfl ⟨rfl, Nat.le_of_ble_eq_true rfl⟩ ?_
          refine v_load rfl rfl ⟨rfl, Nat.le_of_ble_eq_true rfl⟩ ?_
          refine v_getx rfl rfl (h10) ?_
          refine v_ige rfl (fun _ => ?_) (fun h => absurd h (by omega))
          refine v_load rfl rfl ⟨rfl, Nat.le_of_ble_eq_true rfl⟩ ?_
          refine v_tsw rfl ?_
          refine v_load rfl rfl ⟨rfl, Nat.le_of_ble_eq_true rfl⟩ ?_
          refine v_push rfl ?_
          refine v_ine rfl (fun _ => ?_) (fun h => absurd h (by omega))
          refine v_load rfl rfl ⟨rfl, Nat.le_of_ble_eq_true rfl⟩ ?_
          refine v_load rfl rfl ⟨rfl, Nat.le_of_ble_eq_true rfl⟩ ?_
          refine v_sub rfl (by omega) ?_
          refine v_push rfl ?_
          refine v_add rfl (by omega) ?_
          refine v_ret rfl rfl ?_
          exact k3
    · rw [if_neg cf] at k
      refine v_load rfl rfl ⟨rfl, Nat.le_of_ble_eq_true rfl⟩ ?_
      refine v_load rfl rfl ⟨rfl, Nat.le_of_ble_eq_true rfl⟩ ?_
      refine v_getx rfl rfl (h10) ?_
      refine v_ige rfl (fun _ => ?_) (fun h => absurd h (by omega))
      refine v_load rfl rfl ⟨rfl, Nat.le_of_ble_eq_true rfl⟩ ?_
      refine v_tsw rfl ?_
      rw [z_sw_out _ (by simp only [List.forall_mem_cons, List.not_mem_nil, false_implies, implies_true, and_true]; omega)]
      refine v_push rfl ?_
      refine v_ret rfl rfl ?_
      exact k
  | succ n ih =>
    intro j hn hj
    have ihh := ih (j + 1) (by omega) (by omega)
    have hr := hl_rng (dyP O) j
    have g := hK.1 j (by omega)
    rw [show ((j + 1 : Nat) : Int) = (j : Int) + 1 by omega] at ihh
    by_cases c : O j = -1
    · rw [flt_y (show dyP O j = true from decide_eq_true c), hdI_snoc, ltI_snoc, lck_i (show 0 ≤ (j : Int) by omega)] at ihh
      by_cases z : flt (dyP O) j = []
      · rw [if_pos z, lck_i (show 0 ≤ (j : Int) by omega)] at ihh
        rw [lck_m (hr.2.2.1 z).1]
        refine v_load rfl rfl ⟨rfl, Nat.le_of_ble_eq_true rfl⟩ ?_
        refine v_load rfl rfl ⟨rfl, Nat.le_of_ble_eq_true rfl⟩ ?_
        refine v_getx rfl rfl (h10) ?_
        refine v_ige rfl (fun h => absurd h (by omega)) (fun _ => ?_)
        refine v_load rfl rfl ⟨rfl, Nat.le_of_ble_eq_true rfl⟩ ?_
        refine v_getp rfl rfl rfl ?_
        refine v_load rfl rfl ⟨rfl, Nat.le_of_ble_eq_true rfl⟩ ?_
        refine v_ald9 rfl rfl ⟨by omega, by show _ < (300 : Int); omega⟩ ?_
        rw [g]
        refine v_push rfl ?_
        refine v_ieq rfl (fun _ => ?_) (fun h => absurd h (by omega))
        refine v_load rfl rfl ⟨rfl, Nat.le_of_ble_eq_true rfl⟩ ?_
        refine v_push rfl ?_
        refine v_ine rfl (fun h => absurd h (by omega)) (fun _ => ?_)
        refine v_load rfl rfl ⟨rfl, Nat.le_of_ble_eq_true rfl⟩ ?_
        refine v_goto rfl ?_
        refine v_store rfl ⟨rfl, Nat.le_of_ble_eq_true rfl, Nat.le_of_ble_eq_true rfl, rfl⟩ rfl ?_
        refine v_load rfl rfl ⟨rfl, Nat.le_of_ble_eq_true rfl⟩ ?_
        refine v_store rfl ⟨rfl, Nat.le_of_ble_eq_true rfl, Nat.le_of_ble_eq_true rfl, rfl⟩ rfl ?_
        refine v_iinc rfl rfl rfl (by omega) rfl ?_
        refine v_goto rfl ?_
        exact ihh
      · have hz := hr.2.2.2 z
        rw [if_neg z, lck_i hz.1] at ihh
        rw [lck_i hz.1]
        refine v_load rfl rfl ⟨rfl, Nat.le_of_ble_eq_true rfl⟩ ?_
        refine v_load rfl rfl ⟨rfl, Nat.le_of_ble_eq_true rfl⟩ ?_
        refine v_getx rfl rfl (h10) ?_
        refine v_ige rfl (fun h => absurd h (by omega)) (fun _ => ?_)
        refine v_load rfl rfl ⟨rfl, Nat.le_of_ble_eq_true rfl⟩ ?_
        refine v_getp rfl rfl rfl ?_
        refine v_load rfl rfl ⟨rfl, Nat.le_of_ble_eq_true rfl⟩ ?_
        refine v_ald9 rfl rfl ⟨by omega, by show _ < (300 : Int); omega⟩ ?_
        rw [g]
        refine v_push rfl ?_
        refine v_ieq rfl (fun _ => ?_) (fun h => absurd h (by omega))
        refine v_load rfl rfl ⟨rfl, Nat.le_of_ble_eq_true rfl⟩ ?_
        refine v_push rfl ?_
        refine v_ine rfl (fun _ => ?_) (fun h => absurd h (by omega))
        refine v_load rfl rfl ⟨rfl, Nat.le_of_ble_eq_true rfl⟩ ?_
        refine v_store rfl ⟨rfl, Nat.le_of_ble_eq_true rfl, Nat.le_of_ble_eq_true rfl, rfl⟩ rfl ?_
        refine v_load rfl rfl ⟨rfl, Nat.le_of_ble_eq_true rfl⟩ ?_
        refine v_store rfl ⟨rfl, Nat.le_of_ble_eq_true rfl, Nat.le_of_ble_eq_true rfl, rfl⟩ rfl ?_
        refine v_iinc rfl rfl rfl (by omega) rfl ?_
        refine v_goto rfl ?_
        exact ihh
    · rw [flt_n (show ¬ dyP O j = true from fun z => c (of_decide_eq_true z))] at ihh
      refine v_load rfl rfl ⟨rfl, Nat.le_of_ble_eq_true rfl⟩ ?_
      refine v_load rfl rfl ⟨rfl, Nat.le_of_ble_eq_true rfl⟩ ?_
      refine v_getx rfl rfl (h10) ?_
      refine v_ige rfl (fun h => absurd h (by omega)) (fun _ => ?_)
      refine v_load rfl rfl ⟨rfl, Nat.le_of_ble_eq_true rfl⟩ ?_
      refine v_getp rfl rfl rfl ?_
      refine v_load rfl rfl ⟨rfl, Nat.le_of_ble_eq_true rfl⟩ ?_
      refine v_ald9 rfl rfl ⟨by omega, by show _ < (300 : Int); omega⟩ ?_
      rw [g]
      refine v_push rfl ?_
      refine v_ieq rfl (fun h => absurd h (by omega)) (fun _ => ?_)
      refine v_goto rfl ?_
      refine v_iinc rfl rfl rfl (by omega) rfl ?_
      refine v_goto rfl ?_
      exact ihh
theorem R_dirty {f : Int} (hC : RS s M) (k : Q (some (0, dirtyQ s f)) M) : v_call L (d + 10) 293 [(2, 77), (0, f)] M Q := by
  refine v_in ?_
  refine v_push rfl ?_
  refine v_store rfl ⟨rfl, Nat.le_of_ble_eq_true rfl, Nat.le_of_ble_eq_true rfl, rfl⟩ rfl ?_
  refine v_push rfl ?_
  refine v_store rfl ⟨rfl, Nat.le_of_ble_eq_true rfl, Nat.le_of_ble_eq_true rfl, rfl⟩ rfl ?_
  refine v_push rfl ?_
  refine v_store rfl ⟨rfl, Nat.le_of_ble_eq_true rfl, Nat.le_of_ble_eq_true rfl, rfl⟩ rfl ?_
  exact R_dirty_loop (d := d + 6) hC.1 hC.2.2.2.2.1 k _ 0 rfl (Nat.zero_le _)
/-- told -/
noncomputable def tdP (t : List Int) (i : Int) (j : Nat) : Bool := decide ((nd (NT (toks t)) (j : Int)).1 = 2 ∧ pE t (j : Int) ≤ pF t i ∧ wrd t (nd (NT (toks t)) (j : Int)).2.2.2.2.2.1 = wrd t (nd (NT (toks t)) i).2.2.2.2.2.1)
noncomputable def toldQ (s : zA) (i : Int) : Int := if (nd (NT (toks s.1.1)) i).1 = 12 then lck (ltI (flt (tdP s.1.1 i) (NT (toks s.1.1)).length)) else -1
theorem S_told_loop {i : Int} (hV : BV M 2 t 0) (hR : RT (toks t) M) (hN : TN (toks t) M) (hl : t.length ≤ 300) (k : Q (some (0, lck (ltI (flt (tdP t i) (NT (toks t)).length)))) M) : ∀ (n j : Nat), n = (NT (toks t)).length - j → j ≤ (NT (toks t)).length → v_wp L (d + 4) 170 20 [(2, 1), (0, i), (0, lck (ltI (flt (tdP t i) j))), (0, (j : Int))] [] M Q := by
  intro n
  have hlN : (NT (toks t)).length ≤ 1216 := hN.1.2.1
  induction n with
  | zero =>
    intro j hn hj
    have ej : j = (NT (toks t)).length := by omega
    subst ej
    refine v_load rfl rfl ⟨rfl, Nat.le_of_ble_eq_true rfl⟩ ?_
    refine v_load rfl rfl ⟨rfl, Nat.le_of_ble_eq_true rfl⟩ ?_
    refine v_getp rfl rfl rfl ?_
    refine v_callr rfl ⟨Nat.le_of_ble_eq_true rfl, Nat.le_of_ble_eq_true rfl, rfl, Nat.le_of_ble_eq_true rfl, rfl⟩ ?_
    refine S_ndSize hN.1 ?_
    refine v_ige rfl (fun _ => ?_) (fun h => absurd h (by omega))
    refine v_load rfl rfl ⟨rfl, Nat.le_of_ble_eq_true rfl⟩ ?_
    refine v_ret rfl rfl ?_
    exact k
  | succ n ih =>
    intro j hn hj
    have ihh := ih (j + 1) (by omega) (by omega)
    rw [show ((j + 1 : Nat) : Int) = (j : Int) + 1 by omega] at ihh
    by_cases c : tdP t i j = true
    · have c' := of_decide_eq_true c
      rw [flt_y c, ltI_snoc, lck_i (show 0 ≤ (j : Int) by omega)] at ihh
      refine v_load rfl rfl ⟨rfl, Nat.le_of_ble_eq_true rfl⟩ ?_
      refine v_load rfl rfl ⟨rfl, Nat.le_of_ble_eq_true rfl⟩ ?_
      refine v_getp rfl rfl rfl ?_
      refine v_callr rfl ⟨Nat.le_of_ble_eq_true rfl, Nat.le_of_ble_eq_true rfl, rfl, Nat.le_of_ble_eq_true rfl, rfl⟩ ?_
      refine S_ndSize hN.1 ?_
      refine v_ige rfl (fun h => absurd h (by omega)) (fun _ => ?_)
      refine v_load rfl rfl ⟨rfl, Nat.le_of_ble_eq_true rfl⟩ ?_
      refine v_getp rfl rfl rfl ?_
      refine v_load rfl rfl ⟨rfl, Nat.le_of_ble_eq_true rfl⟩ ?_
      refine v_push rfl ?_
      refine v_callr rfl ⟨Nat.le_of_ble_eq_true rfl, Nat.le_of_ble_eq_true rfl, rfl, Nat.le_of_ble_eq_true rfl, rfl⟩ ?_
      refine S_ndIsOf hN.1 (by decide) ?_
      rw [b2i_t (decide_eq_true c'.1)]
      refine v_ifeq rfl (fun h => absurd h (by decide)) (fun _ => ?_)
      refine v_load rfl rfl ⟨rfl, Nat.le_of_ble_eq_true rfl⟩ ?_
      refine v_getp rfl rfl rfl ?_
      refine v_load rfl rfl ⟨rfl, Nat.le_of_ble_eq_true rfl⟩ ?_
      refine v_callr rfl ⟨Nat.le_of_ble_eq_true rfl, Nat.le_of_ble_eq_true rfl, rfl, Nat.le_of_ble_eq_true rfl, rfl⟩ ?_
      refine S_endOf hV hR hN hl ?_
      refine v_load rfl rfl ⟨rfl, Nat.le_of_ble_eq_true rfl⟩ ?_
      refine v_getp rfl rfl rfl ?_
      refine v_load rfl rfl ⟨rfl, Nat.le_of_ble_eq_true rfl⟩ ?_
      refine v_callr rfl ⟨Nat.le_of_ble_eq_true rfl, Nat.le_of_ble_eq_true rfl, rfl, Nat.le_of_ble_eq_true rfl, rfl⟩ ?_
      refine S_firstOf hR hN hl ?_
      refine v_igt rfl (fun h => absurd h (by omega)) (fun _ => ?_)
      refine v_load rfl rfl ⟨rfl, Nat.le_of_ble_eq_true rfl⟩ ?_
      refine v_getp rfl rfl rfl ?_
      refine v_load rfl rfl ⟨rfl, Nat.le_of_ble_eq_true rfl⟩ ?_
      refine v_getp rfl rfl rfl ?_
      refine v_load rfl rfl ⟨rfl, Nat.le_of_ble_eq_true rfl⟩ ?_
      refine v_callr rfl ⟨Nat.le_of_ble_eq_true rfl, Nat.le_of_ble_eq_true rfl, rfl, Nat.le_of_ble_eq_true rfl, rfl⟩ ?_
      refine S_ndFrom hN.1 ?_
      refine v_load rfl rfl ⟨rfl, Nat.le_of_ble_eq_true rfl⟩ ?_
      refine v_getp rfl rfl rfl ?_
      refine v_load rfl rfl ⟨rfl, Nat.le_of_ble_eq_true rfl⟩ ?_
      refine v_callr rfl ⟨Nat.le_of_ble_eq_true rfl, Nat.le_of_ble_eq_true rfl, rfl, Nat.le_of_ble_eq_true rfl, rfl⟩ ?_
      refine S_ndFrom hN.1 ?_
      refine v_callr rfl ⟨Nat.le_of_ble_eq_true rfl, Nat.le_of_ble_eq_true rfl, rfl, Nat.le_of_ble_eq_true rfl, rfl⟩ ?_
      refine S_isSame hV hR hl ?_
      rw [if_pos c'.2.2]
      refine v_ifeq rfl (fun h => absurd h (by decide)) (fun _ => ?_)
      refine v_load rfl rfl ⟨rfl, Nat.le_of_ble_eq_true rfl⟩ ?_
      refine v_store rfl ⟨rfl, Nat.le_of_ble_eq_true rfl, Nat.le_of_ble_eq_true rfl, rfl⟩ rfl ?_
      refine v_iinc rfl rfl rfl (by omega) rfl ?_
      refine v_goto rfl ?_
      exact ihh
    · have c' : ¬ _ := fun z => c (decide_eq_true z)
      rw [flt_n c] at ihh
      by_cases c1 : (nd (NT (toks t)) (j : Int)).1 = 2
      · by_cases c2 : pE t (j : Int) ≤ pF t i
        · refine v_load rfl rfl ⟨rfl, Nat.le_of_ble_eq_true rfl⟩ ?_
          refine v_load rfl rfl ⟨rfl, Nat.le_of_ble_eq_true rfl⟩ ?_
          refine v_getp rfl rfl rfl ?_
          refine v_callr rfl ⟨Nat.le_of_ble_eq_true rfl, Nat.le_of_ble_eq_true rfl, rfl, Nat.le_of_ble_eq_true rfl, rfl⟩ ?_
          refine S_ndSize hN.1 ?_
          refine v_ige rfl (fun h => absurd h (by omega)) (fun _ => ?_)
          refine v_load rfl rfl ⟨rfl, Nat.le_of_ble_eq_true rfl⟩ ?_
          refine v_getp rfl rfl rfl ?_
          refine v_load rfl rfl ⟨rfl, Nat.le_of_ble_eq_true rfl⟩ ?_
          refine v_push rfl ?_
          refine v_callr rfl ⟨Nat.le_of_ble_eq_true rfl, Nat.le_of_ble_eq_true rfl, rfl, Nat.le_of_ble_eq_true rfl, rfl⟩ ?_
          refine S_ndIsOf hN.1 (by decide) ?_
          rw [b2i_t (decide_eq_true c1)]
          refine v_ifeq rfl (fun h => absurd h (by decide)) (fun _ => ?_)
          refine v_load rfl rfl ⟨rfl, Nat.le_of_ble_eq_true rfl⟩ ?_
          refine v_getp rfl rfl rfl ?_
          refine v_load rfl rfl ⟨rfl, Nat.le_of_ble_eq_true rfl⟩ ?_
          refine v_callr rfl ⟨Nat.le_of_ble_eq_true rfl, Nat.le_of_ble_eq_true rfl, rfl, Nat.le_of_ble_eq_true rfl, rfl⟩ ?_
          refine S_endOf hV hR hN hl ?_
          refine v_load rfl rfl ⟨rfl, Nat.le_of_ble_eq_true rfl⟩ ?_
          refine v_getp rfl rfl rfl ?_
          refine v_load rfl rfl ⟨rfl, Nat.le_of_ble_eq_true rfl⟩ ?_
          refine v_callr rfl ⟨Nat.le_of_ble_eq_true rfl, Nat.le_of_ble_eq_true rfl, rfl, Nat.le_of_ble_eq_true rfl, rfl⟩ ?_
          refine S_firstOf hR hN hl ?_
          refine v_igt rfl (fun h => absurd h (by omega)) (fun _ => ?_)
          refine v_load rfl rfl ⟨rfl, Nat.le_of_ble_eq_true rfl⟩ ?_
          refine v_getp rfl rfl rfl ?_
          refine v_load rfl rfl ⟨rfl, Nat.le_of_ble_eq_true rfl⟩ ?_
          refine v_getp rfl rfl rfl ?_
          refine v_load rfl rfl ⟨rfl, Nat.le_of_ble_eq_true rfl⟩ ?_
          refine v_callr rfl ⟨Nat.le_of_ble_eq_true rfl, Nat.le_of_ble_eq_true rfl, rfl, Nat.le_of_ble_eq_true rfl, rfl⟩ ?_
          refine S_ndFrom hN.1 ?_
          refine v_load rfl rfl ⟨rfl, Nat.le_of_ble_eq_true rfl⟩ ?_
          refine v_getp rfl rfl rfl ?_
          refine v_load rfl rfl ⟨rfl, Nat.le_of_ble_eq_true rfl⟩ ?_
          refine v_callr rfl ⟨Nat.le_of_ble_eq_true rfl, Nat.le_of_ble_eq_true rfl, rfl, Nat.le_of_ble_eq_true rfl, rfl⟩ ?_
          refine S_ndFrom hN.1 ?_
          refine v_callr rfl ⟨Nat.le_of_ble_eq_true rfl, Nat.le_of_ble_eq_true rfl, rfl, Nat.le_of_ble_eq_true rfl, rfl⟩ ?_
          refine S_isSame hV hR hl ?_
          rw [if_neg (fun z => c' ⟨c1, c2, z⟩)]
          refine v_ifeq rfl (fun _ => ?_) (fun h => absurd h (by decide))
          refine v_iinc rfl rfl rfl (by omega) rfl ?_
          refine v_goto rfl ?_
          exact ihh
        · refine v_load rfl rfl ⟨rfl, Nat.le_of_ble_eq_true rfl⟩ ?_
          refine v_load rfl rfl ⟨rfl, Nat.le_of_ble_eq_true rfl⟩ ?_
          refine v_getp rfl rfl rfl ?_
          refine v_callr rfl ⟨Nat.le_of_ble_eq_true rfl, Nat.le_of_ble_eq_true rfl, rfl, Nat.le_of_ble_eq_true rfl, rfl⟩ ?_
          refine S_ndSize hN.1 ?_
          refine v_ige rfl (fun h => absurd h (by omega)) (fun _ => ?_)
          refine v_load rfl rfl ⟨rfl, Nat.le_of_ble_eq_true rfl⟩ ?_
          refine v_getp rfl rfl rfl ?_
          refine v_load rfl rfl ⟨rfl, Nat.le_of_ble_eq_true rfl⟩ ?_
          refine v_push rfl ?_
          refine v_callr rfl ⟨Nat.le_of_ble_eq_true rfl, Nat.le_of_ble_eq_true rfl, rfl, Nat.le_of_ble_eq_true rfl, rfl⟩ ?_
          refine S_ndIsOf hN.1 (by decide) ?_
          rw [b2i_t (decide_eq_true c1)]
          refine v_ifeq rfl (fun h => absurd h (by decide)) (fun _ => ?_)
          refine v_load rfl rfl ⟨rfl, Nat.le_of_ble_eq_true rfl⟩ ?_
          refine v_getp rfl rfl rfl ?_
          refine v_load rfl rfl ⟨rfl, Nat.le_of_ble_eq_true rfl⟩ ?_
          refine v_callr rfl ⟨Nat.le_of_ble_eq_true rfl, Nat.le_of_ble_eq_true rfl, rfl, Nat.le_of_ble_eq_true rfl, rfl⟩ ?_
          refine S_endOf hV hR hN hl ?_
          refine v_load rfl rfl ⟨rfl, Nat.le_of_ble_eq_true rfl⟩ ?_
          refine v_getp rfl rfl rfl ?_
          refine v_load rfl rfl ⟨rfl, Nat.le_of_ble_eq_true rfl⟩ ?_
          refine v_callr rfl ⟨Nat.le_of_ble_eq_true rfl, Nat.le_of_ble_eq_true rfl, rfl, Nat.le_of_ble_eq_true rfl, rfl⟩ ?_
          refine S_firstOf hR hN hl ?_
          refine v_igt rfl (fun _ => ?_) (fun h => absurd h (by omega))
          refine v_iinc rfl rfl rfl (by omega) rfl ?_
          refine v_goto rfl ?_
          exact ihh
      · refine v_load rfl rfl ⟨rfl, Nat.le_of_ble_eq_true rfl⟩ ?_
        refine v_load rfl rfl ⟨rfl, Nat.le_of_ble_eq_true rfl⟩ ?_
        refine v_getp rfl rfl rfl ?_
        refine v_callr rfl ⟨Nat.le_of_ble_eq_true rfl, Nat.le_of_ble_eq_true rfl, rfl, Nat.le_of_ble_eq_true rfl, rfl⟩ ?_
        refine S_ndSize hN.1 ?_
        refine v_ige rfl (fun h => absurd h (by omega)) (fun _ => ?_)
        refine v_load rfl rfl ⟨rfl, Nat.le_of_ble_eq_true rfl⟩ ?_
        refine v_getp rfl rfl rfl ?_
        refine v_load rfl rfl ⟨rfl, Nat.le_of_ble_eq_true rfl⟩ ?_
        refine v_push rfl ?_
        refine v_callr rfl ⟨Nat.le_of_ble_eq_true rfl, Nat.le_of_ble_eq_true rfl, rfl, Nat.le_of_ble_eq_true rfl, rfl⟩ ?_
        refine S_ndIsOf hN.1 (by decide) ?_
        rw [b2i_f (by simpa using c1)]
        refine v_ifeq rfl (fun _ => ?_) (fun h => absurd h (by decide))
        refine v_iinc rfl rfl rfl (by omega) rfl ?_
        refine v_goto rfl ?_
        exact ihh
theorem S_told {i : Int} (hC : CS s M) (hB : BS s n) (k : Q (some (0, toldQ s i)) M) : v_call L (d + 10) 170 [(2, 1), (0, i)] M Q := by
  obtain ⟨h1, -, -, -, h5, h6, -⟩ := id hC
  unfold toldQ at k
  refine v_in ?_
  by_cases c : (nd (NT (toks s.1.1)) i).1 = 12
  · rw [if_pos c] at k
    refine v_load rfl rfl ⟨rfl, Nat.le_of_ble_eq_true rfl⟩ ?_
    refine v_getp rfl rfl rfl ?_
    refine v_load rfl rfl ⟨rfl, Nat.le_of_ble_eq_true rfl⟩ ?_
    refine v_push rfl ?_
    refine v_callr rfl ⟨Nat.le_of_ble_eq_true rfl, Nat.le_of_ble_eq_true rfl, rfl, Nat.le_of_ble_eq_true rfl, rfl⟩ ?_
    refine S_ndIsOf h6.1 (by decide) ?_
    rw [b2i_t (decide_eq_true c)]
    refine v_ifne rfl (fun _ => ?_) (fun h => absurd h (by decide))
    refine v_push rfl ?_
    refine v_store rfl ⟨rfl, Nat.le_of_ble_eq_true rfl, Nat.le_of_ble_eq_true rfl, rfl⟩ rfl ?_
    refine v_push rfl ?_
    refine v_store rfl ⟨rfl, Nat.le_of_ble_eq_true rfl, Nat.le_of_ble_eq_true rfl, rfl⟩ rfl ?_
    exact S_told_loop (d := d + 6) h1 h5 h6 hB.1 k _ 0 rfl (Nat.zero_le _)
  · rw [if_neg c] at k
    refine v_load rfl rfl ⟨rfl, Nat.le_of_ble_eq_true rfl⟩ ?_
    refine v_getp rfl rfl rfl ?_
    refine v_load rfl rfl ⟨rfl, Nat.le_of_ble_eq_true rfl⟩ ?_
    refine v_push rfl ?_
    refine v_callr rfl ⟨Nat.le_of_ble_eq_true rfl, Nat.le_of_ble_eq_true rfl, rfl, Nat.le_of_ble_eq_true rfl, rfl⟩ ?_
    refine S_ndIsOf h6.1 (by decide) ?_
    rw [b2i_f (by simpa using c)]
    refine v_ifne rfl (fun h => absurd h (by decide)) (fun _ => ?_)
    refine v_push rfl ?_
    refine v_ret rfl rfl ?_
    exact k
theorem R_told_loop {i : Int} (hS : RSt t M) (hi : (nd (NT (toks t)) i).1 = 12) (k : Q (some (0, lck (ltI (flt (tdP t i) (NT (toks t)).length)))) M) : ∀ (n j : Nat), n = (NT (toks t)).length - j → j ≤ (NT (toks t)).length → v_wp L (d + 4) 307 17 [(2, 77), (0, i), (0, lck (ltI (flt (tdP t i) j))), (0, (j : Int))] [] M Q := by
  intro n
  have hl := NT_1216 hS
  have h44 := (TM_len hS.2.2.1).1
  have hi0 := (nam_i hi).1
  induction n with
  | zero =>
    intro j hn hj
    have ej : j = (NT (toks t)).length := by omega
    subst ej
    refine v_load rfl rfl ⟨rfl, Nat.le_of_ble_eq_true rfl⟩ ?_
    refine v_load rfl rfl ⟨rfl, Nat.le_of_ble_eq_true rfl⟩ ?_
    refine v_getx rfl rfl (h44) ?_
    refine v_ige rfl (fun _ => ?_) (fun h => absurd h (by omega))
    refine v_load rfl rfl ⟨rfl, Nat.le_of_ble_eq_true rfl⟩ ?_
    refine v_ret rfl rfl ?_
    exact k
  | succ n ih =>
    intro j hn hj
    have ihh := ih (j + 1) (by omega) (by omega)
    have g1 := (TM_nd hS (i := (j : Int)) ⟨by omega, by omega⟩).1
    rw [show ((j + 1 : Nat) : Int) = (j : Int) + 1 by omega] at ihh
    by_cases c1 : (nd (NT (toks t)) (j : Int)).1 = 2
    · have sk := set_kid c1
      by_cases c2 : pE t (j : Int) ≤ pF t i
      · by_cases c : tdP t i j = true
        · have c' := of_decide_eq_true c
          have u : usN t (nd (NT (toks t)) i).2.2.2.2.2.1 (j + 1) = true := decide_eq_true (by rw [show ((j + 1 : Nat) : Int) = (j : Int) + 1 by omega]; exact ⟨sk.2.2.1, by rw [sk.2.2.2]; exact c'.2.2⟩)
          rw [flt_y c, ltI_snoc, lck_i (show 0 ≤ (j : Int) by omega)] at ihh
          refine v_load rfl rfl ⟨rfl, Nat.le_of_ble_eq_true rfl⟩ ?_
          refine v_load rfl rfl ⟨rfl, Nat.le_of_ble_eq_true rfl⟩ ?_
          refine v_getx rfl rfl (h44) ?_
          refine v_ige rfl (fun h => absurd h (by omega)) (fun _ => ?_)
          refine v_load rfl rfl ⟨rfl, Nat.le_of_ble_eq_true rfl⟩ ?_
          refine v_getp rfl rfl rfl ?_
          refine v_load rfl rfl ⟨rfl, Nat.le_of_ble_eq_true rfl⟩ ?_
          refine v_ald9 rfl rfl ⟨by omega, by show _ < (1600 : Int); omega⟩ ?_
          rw [g1]
          refine v_push rfl ?_
          refine v_ine rfl (fun h => absurd h (by omega)) (fun _ => ?_)
          refine v_load rfl rfl ⟨rfl, Nat.le_of_ble_eq_true rfl⟩ ?_
          refine v_load rfl rfl ⟨rfl, Nat.le_of_ble_eq_true rfl⟩ ?_
          refine v_callr rfl ⟨Nat.le_of_ble_eq_true rfl, Nat.le_of_ble_eq_true rfl, rfl, Nat.le_of_ble_eq_true rfl, rfl⟩ ?_
          refine R_to hS ⟨by omega, by omega⟩ ?_
          refine v_load rfl rfl ⟨rfl, Nat.le_of_ble_eq_true rfl⟩ ?_
          refine v_load rfl rfl ⟨rfl, Nat.le_of_ble_eq_true rfl⟩ ?_
          refine v_callr rfl ⟨Nat.le_of_ble_eq_true rfl, Nat.le_of_ble_eq_true rfl, rfl, Nat.le_of_ble_eq_true rfl, rfl⟩ ?_
          refine R_from hS ⟨by omega, by omega⟩ ?_
          refine v_igt rfl (fun h => absurd h (by omega)) (fun _ => ?_)
          refine v_load rfl rfl ⟨rfl, Nat.le_of_ble_eq_true rfl⟩ ?_
          refine v_load rfl rfl ⟨rfl, Nat.le_of_ble_eq_true rfl⟩ ?_
          refine v_load rfl rfl ⟨rfl, Nat.le_of_ble_eq_true rfl⟩ ?_
          refine v_push rfl ?_
          refine v_add rfl (by omega) ?_
          rw [show (j : Int) + 1 = ((j + 1 : Nat) : Int) by omega]
          refine v_callr rfl ⟨Nat.le_of_ble_eq_true rfl, Nat.le_of_ble_eq_true rfl, rfl, Nat.le_of_ble_eq_true rfl, rfl⟩ ?_
          refine R_areNames hS hi (by omega) ?_
          rw [b2i_t u]
          refine v_ifeq rfl (fun h => absurd h (by decide)) (fun _ => ?_)
          refine v_load rfl rfl ⟨rfl, Nat.le_of_ble_eq_true rfl⟩ ?_
          refine v_store rfl ⟨rfl, Nat.le_of_ble_eq_true rfl, Nat.le_of_ble_eq_true rfl, rfl⟩ rfl ?_
          refine v_iinc rfl rfl rfl (by omega) rfl ?_
          refine v_goto rfl ?_
          exact ihh
        · have u : ¬ usN t (nd (NT (toks t)) i).2.2.2.2.2.1 (j + 1) = true := fun z => c (decide_eq_true (by have z := of_decide_eq_true z; rw [show ((j + 1 : Nat) : Int) = (j : Int) + 1 by omega, sk.2.2.2] at z; exact ⟨c1, c2, z.2⟩))
          rw [flt_n c] at ihh
          refine v_load rfl rfl ⟨rfl, Nat.le_of_ble_eq_true rfl⟩ ?_
          refine v_load rfl rfl ⟨rfl, Nat.le_of_ble_eq_true rfl⟩ ?_
          refine v_getx rfl rfl (h44) ?_
          refine v_ige rfl (fun h => absurd h (by omega)) (fun _ => ?_)
          refine v_load rfl rfl ⟨rfl, Nat.le_of_ble_eq_true rfl⟩ ?_
          refine v_getp rfl rfl rfl ?_
          refine v_load rfl rfl ⟨rfl, Nat.le_of_ble_eq_true rfl⟩ ?_
          refine v_ald9 rfl rfl ⟨by omega, by show _ < (1600 : Int); omega⟩ ?_
          rw [g1]
          refine v_push rfl ?_
          refine v_ine rfl (fun h => absurd h (by omega)) (fun _ => ?_)
          refine v_load rfl rfl ⟨rfl, Nat.le_of_ble_eq_true rfl⟩ ?_
          refine v_load rfl rfl ⟨rfl, Nat.le_of_ble_eq_true rfl⟩ ?_
          refine v_callr rfl ⟨Nat.le_of_ble_eq_true rfl, Nat.le_of_ble_eq_true rfl, rfl, Nat.le_of_ble_eq_true rfl, rfl⟩ ?_
          refine R_to hS ⟨by omega, by omega⟩ ?_
          refine v_load rfl rfl ⟨rfl, Nat.le_of_ble_eq_true rfl⟩ ?_
          refine v_load rfl rfl ⟨rfl, Nat.le_of_ble_eq_true rfl⟩ ?_
          refine v_callr rfl ⟨Nat.le_of_ble_eq_true rfl, Nat.le_of_ble_eq_true rfl, rfl, Nat.le_of_ble_eq_true rfl, rfl⟩ ?_
          refine R_from hS ⟨by omega, by omega⟩ ?_
          refine v_igt rfl (fun h => absurd h (by omega)) (fun _ => ?_)
          refine v_load rfl rfl ⟨rfl, Nat.le_of_ble_eq_true rfl⟩ ?_
          refine v_load rfl rfl ⟨rfl, Nat.le_of_ble_eq_true rfl⟩ ?_
          refine v_load rfl rfl ⟨rfl, Nat.le_of_ble_eq_true rfl⟩ ?_
          refine v_push rfl ?_
          refine v_add rfl (by omega) ?_
          rw [show (j : Int) + 1 = ((j + 1 : Nat) : Int) by omega]
          refine v_callr rfl ⟨Nat.le_of_ble_eq_true rfl, Nat.le_of_ble_eq_true rfl, rfl, Nat.le_of_ble_eq_true rfl, rfl⟩ ?_
          refine R_areNames hS hi (by omega) ?_
          rw [b2i_f u]
          refine v_ifeq rfl (fun _ => ?_) (fun h => absurd h (by decide))
          refine v_iinc rfl rfl rfl (by omega) rfl ?_
          refine v_goto rfl ?_
          exact ihh
      · rw [flt_n (show ¬ tdP t i j = true from fun z => c2 (of_decide_eq_true z).2.1)] at ihh
        refine v_load rfl rfl ⟨rfl, Nat.le_of_ble_eq_true rfl⟩ ?_
        refine v_load rfl rfl ⟨rfl, Nat.le_of_ble_eq_true rfl⟩ ?_
        refine v_getx rfl rfl (h44) ?_
        refine v_ige rfl (fun h => absurd h (by omega)) (fun _ => ?_)
        refine v_load rfl rfl ⟨rfl, Nat.le_of_ble_eq_true rfl⟩ ?_
        refine v_getp rfl rfl rfl ?_
        refine v_load rfl rfl ⟨rfl, Nat.le_of_ble_eq_true rfl⟩ ?_
        refine v_ald9 rfl rfl ⟨by omega, by show _ < (1600 : Int); omega⟩ ?_
        rw [g1]
        refine v_push rfl ?_
        refine v_ine rfl (fun h => absurd h (by omega)) (fun _ => ?_)
        refine v_load rfl rfl ⟨rfl, Nat.le_of_ble_eq_true rfl⟩ ?_
        refine v_load rfl rfl ⟨rfl, Nat.le_of_ble_eq_true rfl⟩ ?_
        refine v_callr rfl ⟨Nat.le_of_ble_eq_true rfl, Nat.le_of_ble_eq_true rfl, rfl, Nat.le_of_ble_eq_true rfl, rfl⟩ ?_
        refine R_to hS ⟨by omega, by omega⟩ ?_
        refine v_load rfl rfl ⟨rfl, Nat.le_of_ble_eq_true rfl⟩ ?_
        refine v_load rfl rfl ⟨rfl, Nat.le_of_ble_eq_true rfl⟩ ?_
        refine v_callr rfl ⟨Nat.le_of_ble_eq_true rfl, Nat.le_of_ble_eq_true rfl, rfl, Nat.le_of_ble_eq_true rfl, rfl⟩ ?_
        refine R_from hS ⟨by omega, by omega⟩ ?_
        refine v_igt rfl (fun _ => ?_) (fun h => absurd h (by omega))
        refine v_iinc rfl rfl rfl (by omega) rfl ?_
        refine v_goto rfl ?_
        exact ihh
    · rw [flt_n (show ¬ tdP t i j = true from fun z => c1 (of_decide_eq_true z).1)] at ihh
      refine v_load rfl rfl ⟨rfl, Nat.le_of_ble_eq_true rfl⟩ ?_
      refine v_load rfl rfl ⟨rfl, Nat.le_of_ble_eq_true rfl⟩ ?_
      refine v_getx rfl rfl (h44) ?_
      refine v_ige rfl (fun h => absurd h (by omega)) (fun _ => ?_)
      refine v_load rfl rfl ⟨rfl, Nat.le_of_ble_eq_true rfl⟩ ?_
      refine v_getp rfl rfl rfl ?_
      refine v_load rfl rfl ⟨rfl, Nat.le_of_ble_eq_true rfl⟩ ?_
      refine v_ald9 rfl rfl ⟨by omega, by show _ < (1600 : Int); omega⟩ ?_
      rw [g1]
      refine v_push rfl ?_
      refine v_ine rfl (fun _ => ?_) (fun h => absurd h (by omega))
      refine v_iinc rfl rfl rfl (by omega) rfl ?_
      refine v_goto rfl ?_
      exact ihh
theorem R_told {i : Int} (hC : RS s M) (hi : z_i32 i) (k : Q (some (0, toldQ s i)) M) : v_call L (d + 10) 307 [(2, 77), (0, i)] M Q := by
  have hS := hC.1
  unfold toldQ at k
  refine v_in ?_
  by_cases c : (nd (NT (toks s.1.1)) i).1 = 12
  · rw [if_pos c] at k
    refine v_load rfl rfl ⟨rfl, Nat.le_of_ble_eq_true rfl⟩ ?_
    refine v_load rfl rfl ⟨rfl, Nat.le_of_ble_eq_true rfl⟩ ?_
    refine v_push rfl ?_
    refine v_callr rfl ⟨Nat.le_of_ble_eq_true rfl, Nat.le_of_ble_eq_true rfl, rfl, Nat.le_of_ble_eq_true rfl, rfl⟩ ?_
    refine R_isOf hS hi (by decide) ?_
    rw [b2i_t (decide_eq_true c)]
    refine v_ifne rfl (fun _ => ?_) (fun h => absurd h (by decide))
    refine v_push rfl ?_
    refine v_store rfl ⟨rfl, Nat.le_of_ble_eq_true rfl, Nat.le_of_ble_eq_true rfl, rfl⟩ rfl ?_
    refine v_push rfl ?_
    refine v_store rfl ⟨rfl, Nat.le_of_ble_eq_true rfl, Nat.le_of_ble_eq_true rfl, rfl⟩ rfl ?_
    exact R_told_loop (d := d + 6) hS c k _ 0 rfl (Nat.zero_le _)
  · rw [if_neg c] at k
    refine v_load rfl rfl ⟨rfl, Nat.le_of_ble_eq_true rfl⟩ ?_
    refine v_load rfl rfl ⟨rfl, Nat.le_of_ble_eq_true rfl⟩ ?_
    refine v_push rfl ?_
    refine v_callr rfl ⟨Nat.le_of_ble_eq_true rfl, Nat.le_of_ble_eq_true rfl, rfl, Nat.le_of_ble_eq_true rfl, rfl⟩ ?_
    refine R_isOf hS hi (by decide) ?_
    rw [b2i_f (by simpa using c)]
    refine v_ifne rfl (fun h => absurd h (by decide)) (fun _ => ?_)
    refine v_push rfl ?_
    refine v_ret rfl rfl ?_
    exact k
end QA
