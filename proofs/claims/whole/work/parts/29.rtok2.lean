section RK
variable {L d : Nat} {M : zM} {Q : Option zV → zM → Prop} {T : List zT} {t : List Int}
theorem R_quote_loop {fr le : Int} (hX : RX t M) (hR : RR T M) (hT : T.length < 300) (hle : le = skp (notC 10) t fr) (hfr : 0 ≤ fr ∧ fr < (t.length : Int)) (h39 : tb t fr = 39)
    (k : ∀ M' : zM, RR (T ++ (tk1 t fr).1.toList) M' → z_oS M M' → Q (some (0, (tk1 t fr).2)) M') : ∀ (n : Nat) (i : Int), n = (le - i).toNat → fr + 1 ≤ i → i ≤ le → skp inQ t (fr + 1) = skp inQ t i → v_wp L (d + 1) 185 10 [(2, 77), (0, fr), (0, le), (0, i)] [] M Q := by
  have v2 := hX.2.1
  obtain ⟨l1, l2, l3, l4⟩ := skp_ge (notC 10) t _ fr rfl
  have hl := l2 (by omega)
  have e1 : tk1 t fr = (if skp inQ t (fr + 1) < skp (notC 10) t fr then (some (2, fr, skp inQ t (fr + 1) + 1, skp inQ t (fr + 1), 0), skp inQ t (fr + 1) + 1) else (some (4, fr, fr + 1, skp (notC 10) t fr, 0), fr + 1)) := by
    unfold tk1
    rw [if_neg (by omega), if_neg (by omega), if_neg (by rw [h39]; decide), if_neg (by rw [h39]; decide), if_pos h39]
  intro n
  induction n with
  | zero =>
    intro i hn hi hi2 he
    have e2 : ¬ skp inQ t (fr + 1) < skp (notC 10) t fr := by
      obtain ⟨b1, -, -, -⟩ := skp_ge inQ t _ i rfl
      omega
    rw [e1, if_neg e2] at k
    refine v_load rfl rfl ⟨rfl, Nat.le_of_ble_eq_true rfl⟩ ?_
    refine v_load rfl rfl ⟨rfl, Nat.le_of_ble_eq_true rfl⟩ ?_
    refine v_ige rfl (fun _ => ?_) (fun h => absurd h (by omega))
    refine v_load rfl rfl ⟨rfl, Nat.le_of_ble_eq_true rfl⟩ ?_
    refine v_load rfl rfl ⟨rfl, Nat.le_of_ble_eq_true rfl⟩ ?_
    refine v_ige rfl (fun _ => ?_) (fun h => absurd h (by omega))
    refine v_load rfl rfl ⟨rfl, Nat.le_of_ble_eq_true rfl⟩ ?_
    refine v_push rfl ?_
    refine v_load rfl rfl ⟨rfl, Nat.le_of_ble_eq_true rfl⟩ ?_
    refine v_push rfl ?_
    refine v_load rfl rfl ⟨rfl, Nat.le_of_ble_eq_true rfl⟩ ?_
    refine v_callr rfl ⟨Nat.le_of_ble_eq_true rfl, Nat.le_of_ble_eq_true rfl, rfl, Nat.le_of_ble_eq_true rfl, rfl⟩ ?_
    refine R_tokenIs hR hT (fun M' hR' ho => ?_)
    refine v_load rfl rfl ⟨rfl, Nat.le_of_ble_eq_true rfl⟩ ?_
    refine v_push rfl ?_
    refine v_add rfl (by omega) ?_
    refine v_ret rfl rfl ?_
    have hR' := hR' 0
    rw [hle] at hR'
    exact k M' hR' ho
  | succ n ih =>
    intro i hn hi hi2 he
    refine v_load rfl rfl ⟨rfl, Nat.le_of_ble_eq_true rfl⟩ ?_
    refine v_load rfl rfl ⟨rfl, Nat.le_of_ble_eq_true rfl⟩ ?_
    refine v_ige rfl (fun h => absurd h (by omega)) (fun _ => ?_)
    refine v_load rfl rfl ⟨rfl, Nat.le_of_ble_eq_true rfl⟩ ?_
    refine v_getp rfl rfl rfl ?_
    refine v_load rfl rfl ⟨rfl, Nat.le_of_ble_eq_true rfl⟩ ?_
    refine v_ald9 rfl rfl ⟨by omega, by show i < (300 : Int); omega⟩ ?_
    rw [RX_at hX ⟨by omega, by omega⟩]
    refine v_push rfl ?_
    refine v_ieq rfl (fun h => ?_) (fun h => ?_)
    · have hq : skp inQ t i = i := skp_no (by rw [h]; decide)
      have e3 : skp inQ t (fr + 1) = i := he.trans hq
      rw [e1, e3, if_pos (by omega)] at k
      refine v_load rfl rfl ⟨rfl, Nat.le_of_ble_eq_true rfl⟩ ?_
      refine v_load rfl rfl ⟨rfl, Nat.le_of_ble_eq_true rfl⟩ ?_
      refine v_ige rfl (fun h => absurd h (by omega)) (fun _ => ?_)
      refine v_load rfl rfl ⟨rfl, Nat.le_of_ble_eq_true rfl⟩ ?_
      refine v_push rfl ?_
      refine v_load rfl rfl ⟨rfl, Nat.le_of_ble_eq_true rfl⟩ ?_
      refine v_load rfl rfl ⟨rfl, Nat.le_of_ble_eq_true rfl⟩ ?_
      refine v_push rfl ?_
      refine v_add rfl (by omega) ?_
      refine v_load rfl rfl ⟨rfl, Nat.le_of_ble_eq_true rfl⟩ ?_
      refine v_sub rfl (by omega) ?_
      refine v_load rfl rfl ⟨rfl, Nat.le_of_ble_eq_true rfl⟩ ?_
      refine v_callr rfl ⟨Nat.le_of_ble_eq_true rfl, Nat.le_of_ble_eq_true rfl, rfl, Nat.le_of_ble_eq_true rfl, rfl⟩ ?_
      refine R_tokenIs hR hT (fun M' hR' ho => ?_)
      refine v_load rfl rfl ⟨rfl, Nat.le_of_ble_eq_true rfl⟩ ?_
      refine v_push rfl ?_
      refine v_add rfl (by omega) ?_
      refine v_ret rfl rfl ?_
      have hR' := hR' 0
      rw [show fr + (i + 1 - fr) = i + 1 by omega] at hR'
      exact k M' hR' ho
    · have hq : inQ (tb t i) = true := by
        have h10 := l3 i (by omega) (by omega)
        unfold inQ
        rw [h10, Bool.and_true]
        simp [notC, h]
      refine v_load rfl rfl ⟨rfl, Nat.le_of_ble_eq_true rfl⟩ ?_
      refine v_push rfl ?_
      refine v_add rfl (by omega) ?_
      refine v_store rfl ⟨rfl, Nat.le_of_ble_eq_true rfl, Nat.le_of_ble_eq_true rfl, rfl⟩ rfl ?_
      refine v_goto rfl ?_
      exact ih (i + 1) (by omega) (by omega) (by omega) (by rw [he, skp_in (by omega) hq])
theorem R_quoteFrom {fr : Int} (hX : RX t M) (hR : RR T M) (hT : T.length < 300) (hfr : 0 ≤ fr ∧ fr < (t.length : Int)) (h39 : tb t fr = 39)
    (k : ∀ M' : zM, RR (T ++ (tk1 t fr).1.toList) M' → z_oS M M' → Q (some (0, (tk1 t fr).2)) M') : v_call L (d + 1) 185 [(2, 77), (0, fr)] M Q := by
  have v2 := hX.2.1
  refine v_in ?_
  refine v_load rfl rfl ⟨rfl, Nat.le_of_ble_eq_true rfl⟩ ?_
  refine v_load rfl rfl ⟨rfl, Nat.le_of_ble_eq_true rfl⟩ ?_
  refine v_callr rfl ⟨Nat.le_of_ble_eq_true rfl, Nat.le_of_ble_eq_true rfl, rfl, Nat.le_of_ble_eq_true rfl, rfl⟩ ?_
  refine R_lineEnd hX ⟨by omega, by omega⟩ ?_
  refine v_store rfl ⟨rfl, Nat.le_of_ble_eq_true rfl, Nat.le_of_ble_eq_true rfl, rfl⟩ rfl ?_
  refine v_load rfl rfl ⟨rfl, Nat.le_of_ble_eq_true rfl⟩ ?_
  refine v_push rfl ?_
  refine v_add rfl (by omega) ?_
  refine v_store rfl ⟨rfl, Nat.le_of_ble_eq_true rfl, Nat.le_of_ble_eq_true rfl, rfl⟩ rfl ?_
  have hgt := skp_gt (p := notC 10) (t := t) (i := fr) hfr.2 (by rw [h39]; decide)
  exact R_quote_loop hX hR hT rfl hfr h39 k _ (fr + 1) rfl (by omega) (by omega) rfl
/-- the loop of splits -/
theorem R_splits_loop {c0 : zV} (M0 : zM) (k : ∀ M', RR (toks t) M' → z_oS M0 M' → Q none M') : ∀ (n : Nat) (i : Int) (c0 : zV) (M : zM) (T : List zT), ((t.length : Int) - i).toNat ≤ n → 0 ≤ i → i ≤ (t.length : Int) → (T.length : Int) ≤ i → (c0.1 = 0 ∨ c0.1 = 9) → RX t M → RR T M → z_oS M0 M → T ++ toksF t.length t i = toks t → v_wp L (d + 4) 186 7 [(2, 77), (0, i), c0] [] M Q := by
  intro n
  induction n with
  | zero =>
    intro i c0 M T hn hi hil hTl hc hX hR ho ht
    have e : toksF t.length t i = [] := by
      cases hl : t.length with
      | zero => rfl
      | succ m =>
        unfold toksF
        rw [if_neg (by omega)]
    rw [e, List.append_nil] at ht
    refine v_load rfl rfl ⟨rfl, Nat.le_of_ble_eq_true rfl⟩ ?_
    refine v_load rfl rfl ⟨rfl, Nat.le_of_ble_eq_true rfl⟩ ?_
    refine v_getx rfl rfl hX.1 ?_
    refine v_ige rfl (fun _ => ?_) (fun h => absurd h (by omega))
    refine v_ret rfl rfl ?_
    exact k M (by rw [← ht]; exact hR) ho
  | succ n ih =>
    intro i c0 M T hn hi hil hTl hc hX hR ho ht
    have v2 := hX.2.1
    refine v_load rfl rfl ⟨rfl, Nat.le_of_ble_eq_true rfl⟩ ?_
    refine v_load rfl rfl ⟨rfl, Nat.le_of_ble_eq_true rfl⟩ ?_
    refine v_getx rfl rfl hX.1 ?_
    refine v_ige rfl (fun hge => ?_) (fun hlt => ?_)
    · have e : toksF t.length t i = [] := by
        cases hl : t.length with
        | zero => rfl
        | succ m =>
          unfold toksF
          rw [if_neg (by omega)]
      rw [e, List.append_nil] at ht
      refine v_ret rfl rfl ?_
      exact k M (by rw [← ht]; exact hR) ho
    · have hg := tk1_next hlt
      have hT : T.length < 300 := by omega
      have next : ∀ (nx : Int) (M' : zM), nx = (tk1 t i).2 → RR (T ++ (tk1 t i).1.toList) M' → z_oS M M' → v_wp L (d + 4) 186 126 [(2, 77), (0, nx), (0, tb t i)] [] M' Q := by
        intro nx M' hnx hR' ho'
        subst hnx
        refine v_goto rfl ?_
        have hlen : ((T ++ (tk1 t i).1.toList).length : Int) ≤ (tk1 t i).2 := by
          cases (tk1 t i).1 <;> simp <;> omega
        refine ih (tk1 t i).2 (0, tb t i) M' (T ++ (tk1 t i).1.toList) (by omega) (by omega) hg.2 hlen (Or.inl rfl) (RX_oS hX ho') hR' (z_oS_tr ho ho') ?_
        rw [List.append_assoc, ← ht]
        congr 1
        obtain ⟨m, hm⟩ : ∃ m, t.length = m + 1 := ⟨t.length - 1, by omega⟩
        have e2 : toksF t.length t i = (tk1 t i).1.toList ++ toksF m t (tk1 t i).2 := by
          rw [hm]
          show (if i < (t.length : Int) then _ else _) = _
          rw [if_pos hlt]
        rw [e2, toksF_eq t t.length m (tk1 t i).2 (by omega) (by omega)]
      have hpre : z_pre [(2, 77), (0, i), c0] 2 = true := rfl
      refine v_load rfl rfl ⟨rfl, Nat.le_of_ble_eq_true rfl⟩ ?_
      refine v_getp rfl rfl rfl ?_
      refine v_load rfl rfl ⟨rfl, Nat.le_of_ble_eq_true rfl⟩ ?_
      refine v_ald9 rfl rfl ⟨hi, by show i < (300 : Int); omega⟩ ?_
      rw [RX_at hX ⟨hi, hlt⟩]
      refine v_store rfl ⟨rfl, Nat.le_of_ble_eq_true rfl, Nat.le_of_ble_eq_true rfl, rfl⟩ rfl ?_
      refine v_load rfl rfl ⟨rfl, Nat.le_of_ble_eq_true rfl⟩ ?_
      refine v_push rfl ?_
      have blank : (tb t i = 32 ∨ tb t i = 10) → v_wp L (d + 4) 186 34 [(2, 77), (0, i), (0, tb t i)] [] M Q := by
        intro h
        have e : tk1 t i = (none, i + 1) := by
          unfold tk1
          rw [if_pos h]
        refine v_load rfl rfl ⟨rfl, Nat.le_of_ble_eq_true rfl⟩ ?_
        refine v_push rfl ?_
        refine v_add rfl (by omega) ?_
        refine v_store rfl ⟨rfl, Nat.le_of_ble_eq_true rfl, Nat.le_of_ble_eq_true rfl, rfl⟩ rfl ?_
        refine v_goto rfl ?_
        exact next _ M (by rw [e]) (by rw [e]; simpa using hR) z_oS_rf
      refine v_ieq rfl (fun h => blank (Or.inl h)) (fun n1 => ?_)
      refine v_load rfl rfl ⟨rfl, Nat.le_of_ble_eq_true rfl⟩ ?_
      refine v_push rfl ?_
      refine v_ine rfl (fun n2 => ?_) (fun h => blank (Or.inr h))
      have n12 : ¬ (tb t i = 32 ∨ tb t i = 10) := by omega
      refine v_load rfl rfl ⟨rfl, Nat.le_of_ble_eq_true rfl⟩ ?_
      refine v_push rfl ?_
      refine v_ine rfl (fun n3 => ?_) (fun h => ?_)
      rotate_left
      · have e : tk1 t i = (none, skp (notC 10) t i) := by
          unfold tk1
          rw [if_neg n12, if_pos h]
        refine v_load rfl rfl ⟨rfl, Nat.le_of_ble_eq_true rfl⟩ ?_
        refine v_load rfl rfl ⟨rfl, Nat.le_of_ble_eq_true rfl⟩ ?_
        refine v_callr rfl ⟨Nat.le_of_ble_eq_true rfl, Nat.le_of_ble_eq_true rfl, rfl, Nat.le_of_ble_eq_true rfl, rfl⟩ ?_
        refine R_lineEnd hX ⟨hi, by omega⟩ ?_
        refine v_store rfl ⟨rfl, Nat.le_of_ble_eq_true rfl, Nat.le_of_ble_eq_true rfl, rfl⟩ rfl ?_
        refine v_goto rfl ?_
        exact next _ M (by rw [e]) (by rw [e]; simpa using hR) z_oS_rf
      refine v_load rfl rfl ⟨rfl, Nat.le_of_ble_eq_true rfl⟩ ?_
      refine v_callr rfl ⟨Nat.le_of_ble_eq_true rfl, Nat.le_of_ble_eq_true rfl, rfl, Nat.le_of_ble_eq_true rfl, rfl⟩ ?_
      refine R_isLetter ?_
      refine v_ifeq rfl (fun n4 => ?_) (fun h => ?_)
      rotate_left
      · rw [b2i_0] at h
        have h : isLet (tb t i) = true := by simpa using h
        have e : tk1 t i = (some (0, i, skp isLet t i, skp isLet t i, key t i (skp isLet t i)), skp isLet t i) := by
          unfold tk1
          rw [if_neg n12, if_neg n3, if_pos h]
        refine v_load rfl rfl ⟨rfl, Nat.le_of_ble_eq_true rfl⟩ ?_
        refine v_load rfl rfl ⟨rfl, Nat.le_of_ble_eq_true rfl⟩ ?_
        refine v_callr rfl ⟨Nat.le_of_ble_eq_true rfl, Nat.le_of_ble_eq_true rfl, rfl, Nat.le_of_ble_eq_true rfl, rfl⟩ ?_
        refine R_wordFrom hX hR hT ⟨hi, by omega⟩ (fun M' hR' ho' => ?_)
        refine v_store rfl ⟨rfl, Nat.le_of_ble_eq_true rfl, Nat.le_of_ble_eq_true rfl, rfl⟩ rfl ?_
        refine v_goto rfl ?_
        exact next _ M' (by rw [e]) (by rw [e]; exact hR' _) ho'
      rw [b2i_0] at n4
      have n4 : ¬ isLet (tb t i) = true := by simp [n4]
      refine v_load rfl rfl ⟨rfl, Nat.le_of_ble_eq_true rfl⟩ ?_
      refine v_callr rfl ⟨Nat.le_of_ble_eq_true rfl, Nat.le_of_ble_eq_true rfl, rfl, Nat.le_of_ble_eq_true rfl, rfl⟩ ?_
      refine R_isDigit ?_
      refine v_ifeq rfl (fun n5 => ?_) (fun h => ?_)
      rotate_left
      · rw [b2i_0] at h
        have h : isDig (tb t i) = true := by simpa using h
        have e : tk1 t i = (some (1, i, skp isDig t i, skp isDig t i, 0), skp isDig t i) := by
          unfold tk1
          rw [if_neg n12, if_neg n3, if_neg n4, if_pos h]
        refine v_load rfl rfl ⟨rfl, Nat.le_of_ble_eq_true rfl⟩ ?_
        refine v_load rfl rfl ⟨rfl, Nat.le_of_ble_eq_true rfl⟩ ?_
        refine v_callr rfl ⟨Nat.le_of_ble_eq_true rfl, Nat.le_of_ble_eq_true rfl, rfl, Nat.le_of_ble_eq_true rfl, rfl⟩ ?_
        refine R_numberFrom hX hR hT ⟨hi, by omega⟩ (fun M' hR' ho' => ?_)
        refine v_store rfl ⟨rfl, Nat.le_of_ble_eq_true rfl, Nat.le_of_ble_eq_true rfl, rfl⟩ rfl ?_
        refine v_goto rfl ?_
        exact next _ M' (by rw [e]) (by rw [e]; exact hR' _) ho'
      rw [b2i_0] at n5
      have n5 : ¬ isDig (tb t i) = true := by simp [n5]
      refine v_load rfl rfl ⟨rfl, Nat.le_of_ble_eq_true rfl⟩ ?_
      refine v_push rfl ?_
      refine v_ine rfl (fun n6 => ?_) (fun h => ?_)
      rotate_left
      · refine v_load rfl rfl ⟨rfl, Nat.le_of_ble_eq_true rfl⟩ ?_
        refine v_load rfl rfl ⟨rfl, Nat.le_of_ble_eq_true rfl⟩ ?_
        refine v_callr rfl ⟨Nat.le_of_ble_eq_true rfl, Nat.le_of_ble_eq_true rfl, rfl, Nat.le_of_ble_eq_true rfl, rfl⟩ ?_
        refine R_quoteFrom hX hR hT ⟨hi, hlt⟩ h (fun M' hR' ho' => ?_)
        refine v_store rfl ⟨rfl, Nat.le_of_ble_eq_true rfl, Nat.le_of_ble_eq_true rfl, rfl⟩ rfl ?_
        refine v_goto rfl ?_
        exact next _ M' rfl hR' ho'
      refine v_load rfl rfl ⟨rfl, Nat.le_of_ble_eq_true rfl⟩ ?_
      refine v_load rfl rfl ⟨rfl, Nat.le_of_ble_eq_true rfl⟩ ?_
      refine v_callr rfl ⟨Nat.le_of_ble_eq_true rfl, Nat.le_of_ble_eq_true rfl, rfl, Nat.le_of_ble_eq_true rfl, rfl⟩ ?_
      refine R_isMark ?_
      refine v_ifeq rfl (fun h => ?_) (fun h => ?_)
      · rw [b2i_0] at h
        have e : tk1 t i = (some (4, i, i + 1, i, 0), i + 1) := by
          unfold tk1
          rw [if_neg n12, if_neg n3, if_neg n4, if_neg n5, if_neg n6, if_neg (by rw [h]; decide)]
        refine v_push rfl ?_
        refine v_load rfl rfl ⟨rfl, Nat.le_of_ble_eq_true rfl⟩ ?_
        refine v_push rfl ?_
        refine v_load rfl rfl ⟨rfl, Nat.le_of_ble_eq_true rfl⟩ ?_
        refine v_callr rfl ⟨Nat.le_of_ble_eq_true rfl, Nat.le_of_ble_eq_true rfl, rfl, Nat.le_of_ble_eq_true rfl, rfl⟩ ?_
        refine R_tokenIs hR hT (fun M' hR' ho' => ?_)
        refine v_load rfl rfl ⟨rfl, Nat.le_of_ble_eq_true rfl⟩ ?_
        refine v_push rfl ?_
        refine v_add rfl (by omega) ?_
        refine v_store rfl ⟨rfl, Nat.le_of_ble_eq_true rfl, Nat.le_of_ble_eq_true rfl, rfl⟩ rfl ?_
        exact next _ M' (by rw [e]) (by rw [e]; exact hR' _) ho'
      · rw [b2i_0] at h
        have h : isMk (tb t i) = true := by simpa using h
        have e : tk1 t i = (some (3, i, i + 1, i, tb t i), i + 1) := by
          unfold tk1
          rw [if_neg n12, if_neg n3, if_neg n4, if_neg n5, if_neg n6, if_pos h]
        refine v_push rfl ?_
        refine v_goto rfl ?_
        refine v_load rfl rfl ⟨rfl, Nat.le_of_ble_eq_true rfl⟩ ?_
        refine v_push rfl ?_
        refine v_load rfl rfl ⟨rfl, Nat.le_of_ble_eq_true rfl⟩ ?_
        refine v_callr rfl ⟨Nat.le_of_ble_eq_true rfl, Nat.le_of_ble_eq_true rfl, rfl, Nat.le_of_ble_eq_true rfl, rfl⟩ ?_
        refine R_tokenIs hR hT (fun M' hR' ho' => ?_)
        refine v_load rfl rfl ⟨rfl, Nat.le_of_ble_eq_true rfl⟩ ?_
        refine v_push rfl ?_
        refine v_add rfl (by omega) ?_
        refine v_store rfl ⟨rfl, Nat.le_of_ble_eq_true rfl, Nat.le_of_ble_eq_true rfl, rfl⟩ rfl ?_
        exact next _ M' (by rw [e]) (by rw [e]; exact hR' _) ho'
theorem R_splits (hX : RX t M) (k : ∀ M', RR (toks t) M' → z_oS M M' → Q none M') : v_call L (d + 4) 186 [(2, 77)] M Q := by
  refine v_in ?_
  refine v_load rfl rfl ⟨rfl, Nat.le_of_ble_eq_true rfl⟩ ?_
  refine v_push rfl ?_
  refine v_puti rfl rfl rfl ?_
  refine v_push rfl ?_
  refine v_store rfl ⟨rfl, Nat.le_of_ble_eq_true rfl, Nat.le_of_ble_eq_true rfl, rfl⟩ rfl ?_
  have ho : z_oS M (z_upd M 77 10 0) := ⟨fun b j hb _ => u_n1 hb, fun j hj => u_n2 hj⟩
  exact R_splits_loop (c0 := (9, 0)) M k _ 0 (9, 0) _ [] (Nat.le_refl _) (by omega) (by omega) (by simp) (Or.inr rfl) (RX_oS hX ho) ⟨u_eq, by simp, fun i hi => absurd hi (by simp)⟩ ho rfl
end RK
