section SC
variable {L d : Nat} {M : zM} {Q : Option zV → zM → Prop} {T : List zT} {t : List Int} {s a : Int}
theorem skp_le {p q : Int → Bool} {t : List Int} (h : ∀ c, p c = true → q c = true) (i : Int) : skp p t i ≤ skp q t i := by
  obtain ⟨a1, a2, a3, a4⟩ := skp_ge p t _ i rfl
  obtain ⟨b1, b2, b3, b4⟩ := skp_ge q t _ i rfl
  by_cases hc : skp p t i ≤ skp q t i
  · exact hc
  · exfalso
    have h1 : skp q t i < skp p t i := by omega
    by_cases hi : i ≤ (t.length : Int)
    · have := a2 hi
      exact b4 (by omega) (h _ (a3 _ b1 h1))
    · rw [skp_end (by omega), skp_end (by omega)] at h1
      omega
/-- the quote that is sought: it is where inQ ends -/
theorem S_quote_loop {fr le : Int} (hV : BV M 2 t s) (hR : RT T M) (hT : T.length < 300) (hle : le = skp (notC 10) t fr) (hfr : 0 ≤ fr ∧ fr < (t.length : Int)) (h39 : tb t fr = 39)
    (k : ∀ M', RT (T ++ (tk1 t fr).1.toList) M' → z_oR 36 41 M M' → Q (some (0, (tk1 t fr).2)) M') : ∀ (n : Nat) (i : Int), n = (le - i).toNat → fr + 1 ≤ i → i ≤ le → skp inQ t (fr + 1) = skp inQ t i → v_wp L (d + 1) 75 13 [(2, 36), (0, fr), (0, le), (0, i)] [] M Q := by
  have v2 := hV.2.1
  obtain ⟨l1, l2, l3, l4⟩ := skp_ge (notC 10) t _ fr rfl
  have hl := l2 (by omega)
  have e1 : tk1 t fr = (if skp inQ t (fr + 1) < skp (notC 10) t fr then (some (2, fr, skp inQ t (fr + 1) + 1, skp inQ t (fr + 1), 0), skp inQ t (fr + 1) + 1) else (some (4, fr, fr + 1, skp (notC 10) t fr, 0), fr + 1)) := by
    unfold tk1
    rw [if_neg (by omega), if_neg (by omega), if_neg (by rw [h39]; decide), if_neg (by rw [h39]; decide), if_pos h39]
  intro n
  induction n with
  | zero =>
    intro i hn hi hi2 he
    have e2 : ¬ skp inQ t (fr + 1) < skp (notC 10) t fr := by
      obtain ⟨b1, -, -, -⟩ := skp_ge inQ t _ i rfl
      omega
    rw [e1, if_neg e2] at k
    refine v_load rfl rfl ⟨rfl, Nat.le_of_ble_eq_true rfl⟩ ?_
    refine v_load rfl rfl ⟨rfl, Nat.le_of_ble_eq_true rfl⟩ ?_
    refine v_ige rfl (fun _ => ?_) (fun h => absurd h (by omega))
    refine v_load rfl rfl ⟨rfl, Nat.le_of_ble_eq_true rfl⟩ ?_
    refine v_push rfl ?_
    refine v_load rfl rfl ⟨rfl, Nat.le_of_ble_eq_true rfl⟩ ?_
    refine v_load rfl rfl ⟨rfl, Nat.le_of_ble_eq_true rfl⟩ ?_
    refine v_push rfl ?_
    refine v_add rfl (by omega) ?_
    refine v_load rfl rfl ⟨rfl, Nat.le_of_ble_eq_true rfl⟩ ?_
    refine v_push rfl ?_
    refine v_callr rfl ⟨Nat.le_of_ble_eq_true rfl, Nat.le_of_ble_eq_true rfl, rfl, Nat.le_of_ble_eq_true rfl, rfl⟩ ?_
    refine S_tkAdd hR hT (fun M' hR' ho => ?_)
    refine v_load rfl rfl ⟨rfl, Nat.le_of_ble_eq_true rfl⟩ ?_
    refine v_push rfl ?_
    refine v_add rfl (by omega) ?_
    refine v_ret rfl rfl ?_
    rw [hle] at hR'
    exact k M' hR' ho
  | succ n ih =>
    intro i hn hi hi2 he
    refine v_load rfl rfl ⟨rfl, Nat.le_of_ble_eq_true rfl⟩ ?_
    refine v_load rfl rfl ⟨rfl, Nat.le_of_ble_eq_true rfl⟩ ?_
    refine v_ige rfl (fun h => absurd h (by omega)) (fun _ => ?_)
    refine v_load rfl rfl ⟨rfl, Nat.le_of_ble_eq_true rfl⟩ ?_
    refine v_getp rfl rfl rfl ?_
    refine v_load rfl rfl ⟨rfl, Nat.le_of_ble_eq_true rfl⟩ ?_
    refine v_callr rfl ⟨Nat.le_of_ble_eq_true rfl, Nat.le_of_ble_eq_true rfl, rfl, Nat.le_of_ble_eq_true rfl, rfl⟩ ?_
    refine S_atT z_B2 hV ?_
    refine v_push rfl ?_
    refine v_ine rfl (fun h => ?_) (fun h => ?_)
    · have hq : inQ (tb t i) = true := by
        have h10 := l3 i (by omega) (by omega)
        unfold inQ
        rw [h10, Bool.and_true]
        simp [notC, h]
      refine v_iinc rfl rfl rfl (by omega) rfl ?_
      refine v_goto rfl ?_
      exact ih (i + 1) (by omega) (by omega) (by omega) (by rw [he, skp_in (by omega) hq])
    · have hq : skp inQ t i = i := skp_no (by rw [h]; decide)
      have e3 : skp inQ t (fr + 1) = i := he.trans hq
      rw [e1, e3, if_pos (by omega)] at k
      refine v_load rfl rfl ⟨rfl, Nat.le_of_ble_eq_true rfl⟩ ?_
      refine v_push rfl ?_
      refine v_load rfl rfl ⟨rfl, Nat.le_of_ble_eq_true rfl⟩ ?_
      refine v_load rfl rfl ⟨rfl, Nat.le_of_ble_eq_true rfl⟩ ?_
      refine v_push rfl ?_
      refine v_add rfl (by omega) ?_
      refine v_load rfl rfl ⟨rfl, Nat.le_of_ble_eq_true rfl⟩ ?_
      refine v_push rfl ?_
      refine v_callr rfl ⟨Nat.le_of_ble_eq_true rfl, Nat.le_of_ble_eq_true rfl, rfl, Nat.le_of_ble_eq_true rfl, rfl⟩ ?_
      refine S_tkAdd hR hT (fun M' hR' ho => ?_)
      refine v_load rfl rfl ⟨rfl, Nat.le_of_ble_eq_true rfl⟩ ?_
      refine v_push rfl ?_
      refine v_add rfl (by omega) ?_
      refine v_ret rfl rfl ?_
      exact k M' hR' ho
theorem S_scanQuote {fr : Int} (hV : BV M 2 t s) (hR : RT T M) (hT : T.length < 300) (hfr : 0 ≤ fr ∧ fr < (t.length : Int)) (h39 : tb t fr = 39)
    (k : ∀ M', RT (T ++ (tk1 t fr).1.toList) M' → z_oR 36 41 M M' → Q (some (0, (tk1 t fr).2)) M') : v_call L (d + 2) 75 [(2, 36), (0, fr)] M Q := by
  have v2 := hV.2.1
  refine v_in ?_
  refine v_load rfl rfl ⟨rfl, Nat.le_of_ble_eq_true rfl⟩ ?_
  refine v_getp rfl rfl rfl ?_
  refine v_load rfl rfl ⟨rfl, Nat.le_of_ble_eq_true rfl⟩ ?_
  refine v_callr rfl ⟨Nat.le_of_ble_eq_true rfl, Nat.le_of_ble_eq_true rfl, rfl, Nat.le_of_ble_eq_true rfl, rfl⟩ ?_
  refine S_lineEnd z_B2 hV ⟨by omega, by omega⟩ ?_
  refine v_store rfl ⟨rfl, Nat.le_of_ble_eq_true rfl, Nat.le_of_ble_eq_true rfl, rfl⟩ rfl ?_
  refine v_load rfl rfl ⟨rfl, Nat.le_of_ble_eq_true rfl⟩ ?_
  refine v_push rfl ?_
  refine v_add rfl (by omega) ?_
  refine v_store rfl ⟨rfl, Nat.le_of_ble_eq_true rfl, Nat.le_of_ble_eq_true rfl, rfl⟩ rfl ?_
  have hgt := skp_gt (p := notC 10) (t := t) (i := fr) hfr.2 (by rw [h39]; decide)
  exact S_quote_loop hV hR hT rfl hfr h39 k _ (fr + 1) rfl (by omega) (by omega) rfl
theorem S_scanOne {fr : Int} (hV : BV M 2 t s) (hR : RT T M) (hT : T.length < 300) (hfr : 0 ≤ fr ∧ fr < (t.length : Int))
    (k : ∀ M', RT (T ++ (tk1 t fr).1.toList) M' → z_oR 36 41 M M' → Q (some (0, (tk1 t fr).2)) M') : v_call L (d + 8) 74 [(2, 36), (0, fr)] M Q := by
  have v2 := hV.2.1
  refine v_in ?_
  refine v_load rfl rfl ⟨rfl, Nat.le_of_ble_eq_true rfl⟩ ?_
  refine v_getp rfl rfl rfl ?_
  refine v_load rfl rfl ⟨rfl, Nat.le_of_ble_eq_true rfl⟩ ?_
  refine v_callr rfl ⟨Nat.le_of_ble_eq_true rfl, Nat.le_of_ble_eq_true rfl, rfl, Nat.le_of_ble_eq_true rfl, rfl⟩ ?_
  refine S_atT z_B2 hV ?_
  refine v_store rfl ⟨rfl, Nat.le_of_ble_eq_true rfl, Nat.le_of_ble_eq_true rfl, rfl⟩ rfl ?_
  have blank : (tb t fr = 32 ∨ tb t fr = 10) → v_wp L (d + 8) 74 21 [(2, 36), (0, fr), (0, tb t fr), (9, 0)] [] M Q := by
    intro h
    unfold tk1 at k
    rw [if_pos h] at k
    refine v_load rfl rfl ⟨rfl, Nat.le_of_ble_eq_true rfl⟩ ?_
    refine v_push rfl ?_
    refine v_add rfl (by omega) ?_
    refine v_ret rfl rfl ?_
    exact k M (by simpa using hR) z_oR_rf
  refine v_load rfl rfl ⟨rfl, Nat.le_of_ble_eq_true rfl⟩ ?_
  refine v_push rfl ?_
  refine v_ieq rfl (fun h => blank (Or.inl h)) (fun n1 => ?_)
  refine v_load rfl rfl ⟨rfl, Nat.le_of_ble_eq_true rfl⟩ ?_
  refine v_push rfl ?_
  refine v_ine rfl (fun n2 => ?_) (fun h => blank (Or.inr h))
  have n12 : ¬ (tb t fr = 32 ∨ tb t fr = 10) := by omega
  refine v_load rfl rfl ⟨rfl, Nat.le_of_ble_eq_true rfl⟩ ?_
  refine v_push rfl ?_
  refine v_ine rfl (fun n3 => ?_) (fun h => ?_)
  rotate_left
  · unfold tk1 at k
    rw [if_neg n12, if_pos h] at k
    refine v_load rfl rfl ⟨rfl, Nat.le_of_ble_eq_true rfl⟩ ?_
    refine v_getp rfl rfl rfl ?_
    refine v_load rfl rfl ⟨rfl, Nat.le_of_ble_eq_true rfl⟩ ?_
    refine v_callr rfl ⟨Nat.le_of_ble_eq_true rfl, Nat.le_of_ble_eq_true rfl, rfl, Nat.le_of_ble_eq_true rfl, rfl⟩ ?_
    refine S_lineEnd z_B2 hV ⟨by omega, by omega⟩ ?_
    refine v_ret rfl rfl ?_
    exact k M (by simpa using hR) z_oR_rf
  refine v_load rfl rfl ⟨rfl, Nat.le_of_ble_eq_true rfl⟩ ?_
  refine v_callr rfl ⟨Nat.le_of_ble_eq_true rfl, Nat.le_of_ble_eq_true rfl, rfl, Nat.le_of_ble_eq_true rfl, rfl⟩ ?_
  refine S_isLetter ?_
  refine v_ifeq rfl (fun n4 => ?_) (fun h => ?_)
  rotate_left
  · rw [b2i_0] at h
    have h : isLet (tb t fr) = true := by simpa using h
    have hg := skp_gt hfr.2 h
    unfold tk1 at k
    rw [if_neg n12, if_neg n3, if_pos h] at k
    refine v_load rfl rfl ⟨rfl, Nat.le_of_ble_eq_true rfl⟩ ?_
    refine v_load rfl rfl ⟨rfl, Nat.le_of_ble_eq_true rfl⟩ ?_
    refine v_push rfl ?_
    refine v_callr rfl ⟨Nat.le_of_ble_eq_true rfl, Nat.le_of_ble_eq_true rfl, rfl, Nat.le_of_ble_eq_true rfl, rfl⟩ ?_
    refine S_runEnd (lt := true) hV ⟨by omega, by omega⟩ ?_
    refine v_store rfl ⟨rfl, Nat.le_of_ble_eq_true rfl, Nat.le_of_ble_eq_true rfl, rfl⟩ rfl ?_
    refine v_load rfl rfl ⟨rfl, Nat.le_of_ble_eq_true rfl⟩ ?_
    refine v_push rfl ?_
    refine v_load rfl rfl ⟨rfl, Nat.le_of_ble_eq_true rfl⟩ ?_
    refine v_load rfl rfl ⟨rfl, Nat.le_of_ble_eq_true rfl⟩ ?_
    refine v_load rfl rfl ⟨rfl, Nat.le_of_ble_eq_true rfl⟩ ?_
    refine v_load rfl rfl ⟨rfl, Nat.le_of_ble_eq_true rfl⟩ ?_
    refine v_getp rfl rfl rfl ?_
    refine v_load rfl rfl ⟨rfl, Nat.le_of_ble_eq_true rfl⟩ ?_
    refine v_load rfl rfl ⟨rfl, Nat.le_of_ble_eq_true rfl⟩ ?_
    refine v_callr rfl ⟨Nat.le_of_ble_eq_true rfl, Nat.le_of_ble_eq_true rfl, rfl, Nat.le_of_ble_eq_true rfl, rfl⟩ ?_
    refine S_keyword (t := t) z_B2 hV (by show _ ∧ _ ∧ 0 ≤ skp isLet t fr ∧ skp isLet t fr ≤ 300; omega) ?_
    refine v_callr rfl ⟨Nat.le_of_ble_eq_true rfl, Nat.le_of_ble_eq_true rfl, rfl, Nat.le_of_ble_eq_true rfl, rfl⟩ ?_
    refine S_tkAdd hR hT (fun M' hR' ho => ?_)
    refine v_load rfl rfl ⟨rfl, Nat.le_of_ble_eq_true rfl⟩ ?_
    refine v_ret rfl rfl ?_
    exact k M' hR' ho
  rw [b2i_0] at n4
  have n4 : ¬ isLet (tb t fr) = true := by simp [n4]
  refine v_load rfl rfl ⟨rfl, Nat.le_of_ble_eq_true rfl⟩ ?_
  refine v_callr rfl ⟨Nat.le_of_ble_eq_true rfl, Nat.le_of_ble_eq_true rfl, rfl, Nat.le_of_ble_eq_true rfl, rfl⟩ ?_
  refine S_isDigit ?_
  refine v_ifeq rfl (fun n5 => ?_) (fun h => ?_)
  rotate_left
  · rw [b2i_0] at h
    have h : isDig (tb t fr) = true := by simpa using h
    have hg := skp_gt hfr.2 h
    unfold tk1 at k
    rw [if_neg n12, if_neg n3, if_neg n4, if_pos h] at k
    refine v_load rfl rfl ⟨rfl, Nat.le_of_ble_eq_true rfl⟩ ?_
    refine v_load rfl rfl ⟨rfl, Nat.le_of_ble_eq_true rfl⟩ ?_
    refine v_push rfl ?_
    refine v_callr rfl ⟨Nat.le_of_ble_eq_true rfl, Nat.le_of_ble_eq_true rfl, rfl, Nat.le_of_ble_eq_true rfl, rfl⟩ ?_
    refine S_runEnd (lt := false) hV ⟨by omega, by omega⟩ ?_
    refine v_store rfl ⟨rfl, Nat.le_of_ble_eq_true rfl, Nat.le_of_ble_eq_true rfl, rfl⟩ rfl ?_
    refine v_load rfl rfl ⟨rfl, Nat.le_of_ble_eq_true rfl⟩ ?_
    refine v_push rfl ?_
    refine v_load rfl rfl ⟨rfl, Nat.le_of_ble_eq_true rfl⟩ ?_
    refine v_load rfl rfl ⟨rfl, Nat.le_of_ble_eq_true rfl⟩ ?_
    refine v_load rfl rfl ⟨rfl, Nat.le_of_ble_eq_true rfl⟩ ?_
    refine v_push rfl ?_
    refine v_callr rfl ⟨Nat.le_of_ble_eq_true rfl, Nat.le_of_ble_eq_true rfl, rfl, Nat.le_of_ble_eq_true rfl, rfl⟩ ?_
    refine S_tkAdd hR hT (fun M' hR' ho => ?_)
    refine v_load rfl rfl ⟨rfl, Nat.le_of_ble_eq_true rfl⟩ ?_
    refine v_ret rfl rfl ?_
    exact k M' hR' ho
  rw [b2i_0] at n5
  have n5 : ¬ isDig (tb t fr) = true := by simp [n5]
  refine v_load rfl rfl ⟨rfl, Nat.le_of_ble_eq_true rfl⟩ ?_
  refine v_push rfl ?_
  refine v_ine rfl (fun n6 => ?_) (fun h => ?_)
  rotate_left
  · refine v_load rfl rfl ⟨rfl, Nat.le_of_ble_eq_true rfl⟩ ?_
    refine v_load rfl rfl ⟨rfl, Nat.le_of_ble_eq_true rfl⟩ ?_
    refine v_callr rfl ⟨Nat.le_of_ble_eq_true rfl, Nat.le_of_ble_eq_true rfl, rfl, Nat.le_of_ble_eq_true rfl, rfl⟩ ?_
    refine S_scanQuote hV hR hT hfr h (fun M' hR' ho => ?_)
    refine v_ret rfl rfl ?_
    exact k M' hR' ho
  refine v_load rfl rfl ⟨rfl, Nat.le_of_ble_eq_true rfl⟩ ?_
  refine v_callr rfl ⟨Nat.le_of_ble_eq_true rfl, Nat.le_of_ble_eq_true rfl, rfl, Nat.le_of_ble_eq_true rfl, rfl⟩ ?_
  refine S_isMark ?_
  refine v_store rfl ⟨rfl, Nat.le_of_ble_eq_true rfl, Nat.le_of_ble_eq_true rfl, rfl⟩ rfl ?_
  unfold tk1 at k
  rw [if_neg n12, if_neg n3, if_neg n4, if_neg n5, if_neg n6] at k
  cases hm : isMk (tb t fr) with
  | true =>
    rw [if_pos hm] at k
    have e1 : b2i true = 1 := rfl
    repeat' (first
      | refine v_ifeq rfl (fun h => absurd h (by decide)) (fun _ => ?_)
      | refine S_tkAdd hR hT (fun M' hR' ho => ?_)
      | refine v_load rfl rfl ⟨rfl, Nat.le_of_ble_eq_true rfl⟩ ?_
      | refine v_getp rfl rfl rfl ?_
      | refine v_geti rfl rfl ?_
      | refine v_push rfl ?_
      | refine v_goto rfl ?_
      | refine v_ret rfl rfl ?_
      | refine v_store rfl ⟨rfl, Nat.le_of_ble_eq_true rfl, Nat.le_of_ble_eq_true rfl, rfl⟩ rfl ?_
      | refine v_iinc rfl rfl rfl (by omega) rfl ?_
      | refine v_add rfl (by omega) ?_
      | refine v_sub rfl (by omega) ?_
      | refine v_ige rfl (fun _ => ?_) (fun _ => ?_)
      | refine v_ine rfl (fun _ => ?_) (fun _ => ?_)
      | refine v_ifeq rfl (fun _ => ?_) (fun _ => ?_)
      | refine v_ifne rfl (fun _ => ?_) (fun _ => ?_)
      | refine v_ieq rfl (fun _ => ?_) (fun _ => ?_)
      | refine v_iflt rfl (fun _ => ?_) (fun _ => ?_)
      | refine v_ile rfl (fun _ => ?_) (fun _ => ?_)
      | refine v_ilt rfl (fun _ => ?_) (fun _ => ?_)
      | refine v_igt rfl (fun _ => ?_) (fun _ => ?_)
      | refine v_ifle rfl (fun _ => ?_) (fun _ => ?_)
      | refine v_ifge rfl (fun _ => ?_) (fun _ => ?_)
      | refine v_ifgt rfl (fun _ => ?_) (fun _ => ?_)
      | refine v_ald9 rfl rfl (by refine ⟨?_, ?_⟩ <;> first | omega | (show _ < (300 : Int); omega) | (show _ < (1216 : Int); omega) | (show _ < (1600 : Int); omega) | (show _ < (301 : Int); omega) | (show _ < (18 : Int); omega) | (show _ < (100 : Int); omega) | (show _ < (20 : Int); omega) | (show _ < (13 : Int); omega) | (show _ < (3612 : Int); omega)) ?_
      | refine v_ast9 rfl rfl (by decide) (by refine ⟨?_, ?_⟩ <;> first | omega | (show _ < (300 : Int); omega) | (show _ < (1216 : Int); omega) | (show _ < (1600 : Int); omega) | (show _ < (301 : Int); omega) | (show _ < (18 : Int); omega) | (show _ < (100 : Int); omega) | (show _ < (20 : Int); omega) | (show _ < (13 : Int); omega) | (show _ < (3612 : Int); omega)) ?_
      | refine v_puti rfl rfl rfl ?_
      | refine v_len rfl ⟨Nat.le_of_ble_eq_true rfl, Nat.le_of_ble_eq_true rfl⟩ rfl ?_
      | refine v_getz rfl rfl ?_
      | refine v_getl rfl rfl ?_
      | refine v_dup rfl (Or.inl rfl) ?_
      | refine v_dup rfl (Or.inr rfl) ?_
      | refine v_pop rfl (Or.inl rfl) ?_
      | refine v_callr rfl ⟨Nat.le_of_ble_eq_true rfl, Nat.le_of_ble_eq_true rfl, rfl, Nat.le_of_ble_eq_true rfl, rfl⟩ ?_)
    exact k _ (by assumption) (by assumption)
  | false =>
    rw [if_neg (by rw [hm]; decide)] at k
    repeat' (first
      | refine v_ifeq rfl (fun _ => ?_) (fun h => absurd rfl h)
      | refine S_tkAdd hR hT (fun M' hR' ho => ?_)
      | refine v_load rfl rfl ⟨rfl, Nat.le_of_ble_eq_true rfl⟩ ?_
      | refine v_getp rfl rfl rfl ?_
      | refine v_geti rfl rfl ?_
      | refine v_push rfl ?_
      | refine v_goto rfl ?_
      | refine v_ret rfl rfl ?_
      | refine v_store rfl ⟨rfl, Nat.le_of_ble_eq_true rfl, Nat.le_of_ble_eq_true rfl, rfl⟩ rfl ?_
      | refine v_iinc rfl rfl rfl (by omega) rfl ?_
      | refine v_add rfl (by omega) ?_
      | refine v_sub rfl (by omega) ?_
      | refine v_ige rfl (fun _ => ?_) (fun _ => ?_)
      | refine v_ine rfl (fun _ => ?_) (fun _ => ?_)
      | refine v_ifeq rfl (fun _ => ?_) (fun _ => ?_)
      | refine v_ifne rfl (fun _ => ?_) (fun _ => ?_)
      | refine v_ieq rfl (fun _ => ?_) (fun _ => ?_)
      | refine v_iflt rfl (fun _ => ?_) (fun _ => ?_)
      | refine v_ile rfl (fun _ => ?_) (fun _ => ?_)
      | refine v_ilt rfl (fun _ => ?_) (fun _ => ?_)
      | refine v_igt rfl (fun _ => ?_) (fun _ => ?_)
      | refine v_ifle rfl (fun _ => ?_) (fun _ => ?_)
      | refine v_ifge rfl (fun _ => ?_) (fun _ => ?_)
      | refine v_ifgt rfl (fun _ => ?_) (fun _ => ?_)
      | refine v_ald9 rfl rfl (by refine ⟨?_, ?_⟩ <;> first | omega | (show _ < (300 : Int); omega) | (show _ < (1216 : Int); omega) | (show _ < (1600 : Int); omega) | (show _ < (301 : Int); omega) | (show _ < (18 : Int); omega) | (show _ < (100 : Int); omega) | (show _ < (20 : Int); omega) | (show _ < (13 : Int); omega) | (show _ < (3612 : Int); omega)) ?_
      | refine v_ast9 rfl rfl (by decide) (by refine ⟨?_, ?_⟩ <;> first | omega | (show _ < (300 : Int); omega) | (show _ < (1216 : Int); omega) | (show _ < (1600 : Int); omega) | (show _ < (301 : Int); omega) | (show _ < (18 : Int); omega) | (show _ < (100 : Int); omega) | (show _ < (20 : Int); omega) | (show _ < (13 : Int); omega) | (show _ < (3612 : Int); omega)) ?_
      | refine v_puti rfl rfl rfl ?_
      | refine v_len rfl ⟨Nat.le_of_ble_eq_true rfl, Nat.le_of_ble_eq_true rfl⟩ rfl ?_
      | refine v_getz rfl rfl ?_
      | refine v_getl rfl rfl ?_
      | refine v_dup rfl (Or.inl rfl) ?_
      | refine v_dup rfl (Or.inr rfl) ?_
      | refine v_pop rfl (Or.inl rfl) ?_
      | refine v_callr rfl ⟨Nat.le_of_ble_eq_true rfl, Nat.le_of_ble_eq_true rfl, rfl, Nat.le_of_ble_eq_true rfl, rfl⟩ ?_)
    exact k _ (by assumption) (by assumption)
/-- the loop of scan -/
theorem S_scan_loop (hV : BV M 2 t s) (M0 : zM) (k : ∀ M', RT (toks t) M' → z_oR 36 41 M0 M' → Q none M') : ∀ (n : Nat) (i nx : Int) (M : zM) (T : List zT), n = ((t.length : Int) - i).toNat → 0 ≤ i → i ≤ nx → nx ≤ (t.length : Int) → i ≤ (t.length : Int) → (T.length : Int) ≤ nx → BV M 2 t s → RT T M → z_oR 36 41 M0 M → T ++ toksF t.length t nx = toks t → v_wp L (d + 9) 73 9 [(2, 36), (0, nx), (0, i)] [] M Q := by
  have v2 := hV.2.1
  intro n
  induction n with
  | zero =>
    intro i nx M T hn hi hnx hnl hil hTl hV1 hR ho ht
    have e : toksF t.length t nx = [] := by
      cases hl : t.length with
      | zero => rfl
      | succ m =>
        unfold toksF
        rw [if_neg (by omega)]
    rw [e, List.append_nil] at ht
    refine v_load rfl rfl ⟨rfl, Nat.le_of_ble_eq_true rfl⟩ ?_
    refine v_load rfl rfl ⟨rfl, Nat.le_of_ble_eq_true rfl⟩ ?_
    refine v_getp rfl rfl rfl ?_
    refine v_callr rfl ⟨Nat.le_of_ble_eq_true rfl, Nat.le_of_ble_eq_true rfl, rfl, Nat.le_of_ble_eq_true rfl, rfl⟩ ?_
    refine S_sizeT z_B2 hV1 ?_
    refine v_ige rfl (fun _ => ?_) (fun h => absurd h (by omega))
    refine v_ret rfl rfl ?_
    exact k M (by rw [← ht]; exact hR) ho
  | succ n ih =>
    intro i nx M T hn hi hnx hnl hil hTl hV1 hR ho ht
    refine v_load rfl rfl ⟨rfl, Nat.le_of_ble_eq_true rfl⟩ ?_
    refine v_load rfl rfl ⟨rfl, Nat.le_of_ble_eq_true rfl⟩ ?_
    refine v_getp rfl rfl rfl ?_
    refine v_callr rfl ⟨Nat.le_of_ble_eq_true rfl, Nat.le_of_ble_eq_true rfl, rfl, Nat.le_of_ble_eq_true rfl, rfl⟩ ?_
    refine S_sizeT z_B2 hV1 ?_
    refine v_ige rfl (fun h => absurd h (by omega)) (fun _ => ?_)
    refine v_load rfl rfl ⟨rfl, Nat.le_of_ble_eq_true rfl⟩ ?_
    refine v_load rfl rfl ⟨rfl, Nat.le_of_ble_eq_true rfl⟩ ?_
    refine v_ine rfl (fun hne => ?_) (fun he => ?_)
    · refine v_iinc rfl rfl rfl (by omega) rfl ?_
      refine v_goto rfl ?_
      exact ih (i + 1) nx M T (by omega) (by omega) (by omega) hnl (by omega) hTl hV1 hR ho ht
    · subst he
      have hlt : i < (t.length : Int) := by omega
      have hg := tk1_next hlt
      refine v_load rfl rfl ⟨rfl, Nat.le_of_ble_eq_true rfl⟩ ?_
      refine v_load rfl rfl ⟨rfl, Nat.le_of_ble_eq_true rfl⟩ ?_
      refine v_callr rfl ⟨Nat.le_of_ble_eq_true rfl, Nat.le_of_ble_eq_true rfl, rfl, Nat.le_of_ble_eq_true rfl, rfl⟩ ?_
      refine S_scanOne hV1 hR (by omega) ⟨hi, hlt⟩ (fun M' hR' ho' => ?_)
      refine v_store rfl ⟨rfl, Nat.le_of_ble_eq_true rfl, Nat.le_of_ble_eq_true rfl, rfl⟩ rfl ?_
      refine v_iinc rfl rfl rfl (by omega) rfl ?_
      refine v_goto rfl ?_
      have hlen : ((T ++ (tk1 t i).1.toList).length : Int) ≤ (tk1 t i).2 := by
        cases (tk1 t i).1 <;> simp <;> omega
      refine ih (i + 1) (tk1 t i).2 M' (T ++ (tk1 t i).1.toList) (by omega) (by omega) (by omega) hg.2 (by omega) hlen (BV_oR hV1 ho' (by omega)) hR' (z_oR_tr ho ho') ?_
      rw [List.append_assoc, ← ht]
      congr 1
      obtain ⟨m, hm⟩ : ∃ m, t.length = m + 1 := ⟨t.length - 1, by omega⟩
      have e2 : toksF t.length t i = (tk1 t i).1.toList ++ toksF m t (tk1 t i).2 := by
        rw [hm]
        show (if i < (t.length : Int) then _ else _) = _
        rw [if_pos hlt]
      rw [e2, toksF_eq t t.length m (tk1 t i).2 (by omega) (by omega)]
theorem S_scan (hV : BV M 2 t s) (k : ∀ M', RT (toks t) M' → z_oR 36 41 M M' → Q none M') : v_call L (d + 9) 73 [(2, 36)] M Q := by
  refine v_in ?_
  refine v_load rfl rfl ⟨rfl, Nat.le_of_ble_eq_true rfl⟩ ?_
  refine v_push rfl ?_
  refine v_puti rfl rfl rfl ?_
  refine v_push rfl ?_
  refine v_store rfl ⟨rfl, Nat.le_of_ble_eq_true rfl, Nat.le_of_ble_eq_true rfl, rfl⟩ rfl ?_
  refine v_push rfl ?_
  refine v_store rfl ⟨rfl, Nat.le_of_ble_eq_true rfl, Nat.le_of_ble_eq_true rfl, rfl⟩ rfl ?_
  have ho : z_oR 36 41 M (z_upd M 36 6 0) := fun b j hb => u_n1 (by omega)
  have hV1 : BV (z_upd M 36 6 0) 2 t s := BV_oR hV ho (by omega)
  exact S_scan_loop hV1 M k _ 0 0 _ [] rfl (by omega) (by omega) (by omega) (by omega) (by simp) hV1 ⟨u_eq, by simp, fun i hi => absurd hi (by simp)⟩ ho rfl
end SC
