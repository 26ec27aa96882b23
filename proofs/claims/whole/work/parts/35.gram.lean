/-! THE PARSE of the class: methods 38 to 47 do what P says -/
theorem P_det {T : List zT} {f g mo : Nat} {ne : Int} {le : List zN} {a : Int} {r q : List (List zN) × Int} (h : P T f mo ne le a = some r) (h2 : P T g mo ne le a = some q) : r = q := by
  have e1 := P_le T h (Nat.le_max_left f g)
  have e2 := P_le T h2 (Nat.le_max_right f g)
  rw [e1] at e2
  exact Option.some.inj e2
section PO
variable {T : List zT} {f : Nat} {ne : Int} {a : Int} {r : List (List zN) × Int}
theorem P_ok3 (hT : tkOK T) (h : P T f 3 ne [] a = some r) (h0 : 0 ≤ a) (hl : a ≤ (T.length : Int)) : okE T a r := by
  obtain ⟨g, q, e, ok⟩ := (px_all hT _ a h0 hl (Nat.lt_succ_self _)).1 ne
  rw [P_det h e]; exact ok
theorem P_ok4 (hT : tkOK T) (h : P T f 4 ne [] a = some r) (h0 : 0 ≤ a) (hl : a ≤ (T.length : Int)) : okE T a r := by
  obtain ⟨g, q, e, ok⟩ := (px_all hT _ a h0 hl (Nat.lt_succ_self _)).2.1 ne
  rw [P_det h e]; exact ok
theorem P_ok5 (hT : tkOK T) (h : P T f 5 ne [] a = some r) (h0 : 0 ≤ a) (hl : a ≤ (T.length : Int)) : okE T a r := by
  obtain ⟨g, q, e, ok⟩ := (px_all hT _ a h0 hl (Nat.lt_succ_self _)).2.2.1 ne
  rw [P_det h e]; exact ok
theorem P_ok6 (hT : tkOK T) {le : List zN} (h : P T f 6 ne le a = some r) (h0 : 0 ≤ a) (hl : a ≤ (T.length : Int)) (h1 : le ≠ []) (h2 : nUp le = a) : okL T le a r := by
  obtain ⟨g, q, e, ok⟩ := (px_all hT _ a h0 hl (Nat.lt_succ_self _)).2.2.2.1 ne le h1 h2
  rw [P_det h e]; exact ok
theorem P_ok7 (hT : tkOK T) {le : List zN} (h : P T f 7 ne le a = some r) (h0 : 0 ≤ a) (hl : a ≤ (T.length : Int)) (h1 : le ≠ []) (h2 : nUp le = a) : okL T le a r := by
  obtain ⟨g, q, e, ok⟩ := (px_all hT _ a h0 hl (Nat.lt_succ_self _)).2.2.2.2.1 ne le h1 h2
  rw [P_det h e]; exact ok
theorem P_ok8 (hT : tkOK T) (h : P T f 8 ne [] a = some r) (h0 : 0 ≤ a) (hl : a ≤ (T.length : Int)) : okC T a r := by
  obtain ⟨g, q, e, ok⟩ := (px_all hT _ a h0 hl (Nat.lt_succ_self _)).2.2.2.2.2.1 ne
  rw [P_det h e]; exact ok
theorem P_ok1 (hT : tkOK T) (h : P T f 1 ne [] a = some r) (h0 : 0 ≤ a) (hl : a < (T.length : Int)) : okI T a r := by
  obtain ⟨g, q, e, ok⟩ := (px_all hT _ a h0 (by omega) (Nat.lt_succ_self _)).2.2.2.2.2.2.1 ne hl
  rw [P_det h e]; exact ok
theorem P_ok2 (hT : tkOK T) (h : P T f 2 ne [] a = some r) (h0 : 0 ≤ a) (hl : a ≤ (T.length : Int)) : okB T a r := by
  obtain ⟨g, q, e, ok⟩ := (px_all hT _ a h0 hl (Nat.lt_succ_self _)).2.2.2.2.2.2.2.1 ne
  rw [P_det h e]; exact ok
theorem P_ok0 (hT : tkOK T) {le : List zN} (h : P T f 0 ne le a = some r) (h0 : 0 ≤ a) (hl : a ≤ (T.length : Int)) : okS T a r := by
  obtain ⟨g, q, e, ok⟩ := (px_all hT _ a h0 hl (Nat.lt_succ_self _)).2.2.2.2.2.2.2.2 ne le
  rw [P_det h e]; exact ok
theorem okB_one (h : okB T a r) (hl : a ≤ (T.length : Int)) : ∃ τ, r.1 = [τ] ∧ τ ≠ [] ∧ a ≤ r.2 ∧ r.2 ≤ (T.length : Int) := by
  rcases h with ⟨-, τ, e1, e2, e3, e4, -⟩ | ⟨-, e⟩
  · exact ⟨τ, e1, e2, by omega, e4⟩
  · subst e; exact ⟨_, rfl, mkN_ne, Int.le_refl _, hl⟩
end PO
theorem P_ge (T : List zT) : ∀ (f : Nat) (mo : Nat) (ne : Int) (le : List zN) (a : Int) (r : List (List zN) × Int), mo = 6 ∨ mo = 7 → P T f mo ne le a = some r → le.length ≤ r.1.flatten.length
  | 0, _, _, _, _, _, _, h => by simp [P] at h
  | f + 1, mo, ne, le, a, r, hm, h => by
    have ih := P_ge T f
    rcases hm with rfl | rfl
    · unfold P at h
      simp only at h
      split at h
      · obtain ⟨x, e1, e2⟩ := ob_some h
        have := ih 6 _ _ _ _ (Or.inl rfl) e2
        rw [mkN_len] at this
        simp only [List.flatten_append, List.flatten_cons, List.length_append] at this
        omega
      · have := Option.some.inj h
        rw [← this]
        simp
    · unfold P at h
      simp only at h
      split at h
      · obtain ⟨x, e1, e2⟩ := ob_some h
        have := ih 7 _ _ _ _ (Or.inr rfl) e2
        rw [mkN_len] at this
        simp only [List.flatten_append, List.flatten_cons, List.length_append] at this
        omega
      · have := Option.some.inj h
        rw [← this]
        simp
/-- a method that reads what one mode of P says -/
def GE (L : Nat) (T : List zT) (f mo m D : Nat) : Prop := ∀ (ne a h : Int) (M : zM) (d : Nat) (Q : Option zV → zM → Prop) (τ : List zN) (a' : Int), P T f mo ne [] a = some ([τ], a') → PS T h a M → a ≤ (T.length : Int) → (mo = 1 → a < (T.length : Int)) → h + (τ.length : Int) ≤ 1216 → 0 ≤ ne → ne ≤ 10 → 8 * (10 - ne).toNat + D ≤ d →
  (∀ M' x I, PS T (h + (τ.length : Int)) a' M' → RES h M (h + (τ.length : Int)) M' x τ I → Q (some (0, x)) M') → v_call L d m [(2, 52), (0, ne)] M Q
/-- .. a loop over a left one -/
def GL (L : Nat) (T : List zT) (f mo m D : Nat) : Prop := ∀ (ne a h lo x turn : Int) (M0 M : zM) (d : Nat) (Q : Option zV → zM → Prop) (le τ : List zN) (I : List Int) (a' : Int) (w : zV), P T f mo ne le a = some ([τ], a') → PS T h a M → RES lo M0 h M x le I → lo ≤ h → nUp le = a → 0 ≤ turn → turn ≤ a → a ≤ (T.length : Int) → h + (τ.length : Int) - (le.length : Int) ≤ 1216 → 0 ≤ ne → ne ≤ 10 → 8 * (10 - ne).toNat + D ≤ d →
  (∀ M' x I, PS T (h + (τ.length : Int) - (le.length : Int)) a' M' → RES lo M0 (h + (τ.length : Int) - (le.length : Int)) M' x τ I → Q (some (0, x)) M') → v_wp L d m 8 [(2, 52), (0, ne), (0, x), (0, turn), w] [] M Q
theorem GE_fin {T : List zT} {h1 h2 a' lo x : Int} {M0 M : zM} {τ : List zN} {I : List Int} {Q : Option zV → zM → Prop} (e : h2 = h1) (p : PS T h2 a' M) (r : RES lo M0 h2 M x τ I) (k : ∀ M' x I, PS T h1 a' M' → RES lo M0 h1 M' x τ I → Q (some (0, x)) M') : Q (some (0, x)) M := by
  subst e
  exact k M x I p r
section GR
variable {L : Nat} {T : List zT} {f : Nat}
theorem g_part (hT : tkOK T) (hE : GE L T f 3 45 6) : GE L T (f + 1) 5 47 4 := by
  intro ne a h M d Q τ a' hp hP hal _ hh hn0 hn1 hd k
  obtain ⟨d, rfl⟩ : ∃ e, d = e + 2 := ⟨d - 2, by omega⟩
  have p2 := hP.2.1
  have hl : (T.length : Int) ≤ 300 := by have := hP.2.2.1.2.1; omega
  have ha0 := hP.2.2.2.2.2.1
  unfold P at hp
  simp only at hp
  refine v_in ?_
  refine v_load rfl rfl ⟨rfl, Nat.le_of_ble_eq_true rfl⟩ ?_
  refine v_callr rfl ⟨Nat.le_of_ble_eq_true rfl, Nat.le_of_ble_eq_true rfl, rfl, Nat.le_of_ble_eq_true rfl, rfl⟩ ?_
  refine S_isPlain hP ?_
  refine v_ifeq rfl (fun c1 => ?_) (fun c1 => ?_)
  · rw [z_if01] at c1
    rw [if_neg c1] at hp
    refine v_load rfl rfl ⟨rfl, Nat.le_of_ble_eq_true rfl⟩ ?_
    refine v_getp rfl rfl rfl ?_
    refine v_load rfl rfl ⟨rfl, Nat.le_of_ble_eq_true rfl⟩ ?_
    refine v_getx rfl rfl p2 ?_
    refine v_callr rfl ⟨Nat.le_of_ble_eq_true rfl, Nat.le_of_ble_eq_true rfl, rfl, Nat.le_of_ble_eq_true rfl, rfl⟩ ?_
    refine S_srt hP ?_
    refine v_push rfl ?_
    refine v_ine rfl (fun c2 => ?_) (fun c2 => ?_)
    · rw [if_neg c2] at hp
      refine v_load rfl rfl ⟨rfl, Nat.le_of_ble_eq_true rfl⟩ ?_
      refine v_getp rfl rfl rfl ?_
      refine v_load rfl rfl ⟨rfl, Nat.le_of_ble_eq_true rfl⟩ ?_
      refine v_getx rfl rfl p2 ?_
      refine v_callr rfl ⟨Nat.le_of_ble_eq_true rfl, Nat.le_of_ble_eq_true rfl, rfl, Nat.le_of_ble_eq_true rfl, rfl⟩ ?_
      refine S_srt hP ?_
      refine v_push rfl ?_
      refine v_ine rfl (fun c3 => ?_) (fun c3 => ?_)
      · rw [if_neg c3] at hp
        refine v_load rfl rfl ⟨rfl, Nat.le_of_ble_eq_true rfl⟩ ?_
        refine v_getp rfl rfl rfl ?_
        refine v_load rfl rfl ⟨rfl, Nat.le_of_ble_eq_true rfl⟩ ?_
        refine v_getx rfl rfl p2 ?_
        refine v_callr rfl ⟨Nat.le_of_ble_eq_true rfl, Nat.le_of_ble_eq_true rfl, rfl, Nat.le_of_ble_eq_true rfl, rfl⟩ ?_
        refine S_sgn hP ?_
        refine v_push rfl ?_
        refine v_ine rfl (fun c4 => ?_) (fun c4 => ?_)
        · rw [if_pos (Or.inl c4)] at hp
          obtain ⟨rfl, rfl⟩ : lfN 17 a 0 0 = τ ∧ a = a' := by simpa using hp
          rw [lfN_len] at hh k
          refine v_load rfl rfl ⟨rfl, Nat.le_of_ble_eq_true rfl⟩ ?_
          refine v_push rfl ?_
          refine v_push rfl ?_
          refine v_push rfl ?_
          refine v_callr rfl ⟨Nat.le_of_ble_eq_true rfl, Nat.le_of_ble_eq_true rfl, rfl, Nat.le_of_ble_eq_true rfl, rfl⟩ ?_
          refine S_leaf hP (by omega) (Or.inl rfl) (by omega) (fun M' x I k1 k2 => ?_)
          refine v_ret rfl rfl ?_
          exact k M' x I (by rw [Int.add_zero] at k1; exact k1) k2
        · refine v_load rfl rfl ⟨rfl, Nat.le_of_ble_eq_true rfl⟩ ?_
          refine v_push rfl ?_
          refine v_ilt rfl (fun c5 => ?_) (fun c5 => ?_)
          · rw [if_neg (by omega)] at hp
            obtain ⟨e, e1, e2⟩ := ob_some hp
            obtain ⟨τe, q1, q2, q3, q4, q5, q6, q7⟩ := P_ok3 hT e1 (by omega) (by have := sgn_lt (T := T) (i := a) (by omega); omega)
            obtain ⟨ea, eb⟩ := e
            have q1 : ea = [τe] := q1
            subst q1
            obtain ⟨rfl, rfl⟩ : mkN 15 a (clos T 41 eb).2 0 ([lfN 16 a 1 40] ++ [τe] ++ [(clos T 41 eb).1]) = τ ∧ (clos T 41 eb).2 = a' := by simpa using e2
            have k3 := (clos_ok (T := T) (sg := 41) (at_ := eb) ⟨by have : a + 1 ≤ eb := q3; omega, q4⟩ (by decide)).2.2
            have hlen : (mkN 15 a (clos T 41 eb).2 0 ([lfN 16 a 1 40] ++ [τe] ++ [(clos T 41 eb).1])).length = τe.length + 3 := by rw [mkN_len]; simp only [List.flatten_append, List.flatten_cons, List.flatten_nil, List.append_nil, List.length_append, lfN_len, k3]; omega
            rw [hlen] at hh k
            have q4 : eb ≤ (T.length : Int) := q4
            refine v_load rfl rfl ⟨rfl, Nat.le_of_ble_eq_true rfl⟩ ?_
            refine v_push rfl ?_
            refine v_push rfl ?_
            refine v_push rfl ?_
            refine v_callr rfl ⟨Nat.le_of_ble_eq_true rfl, Nat.le_of_ble_eq_true rfl, rfl, Nat.le_of_ble_eq_true rfl, rfl⟩ ?_
            refine S_open hP (by omega) (by omega) (fun M1 p1 o1 => ?_)
            refine v_store rfl ⟨rfl, Nat.le_of_ble_eq_true rfl, Nat.le_of_ble_eq_true rfl, rfl⟩ rfl ?_
            refine v_load rfl rfl ⟨rfl, Nat.le_of_ble_eq_true rfl⟩ ?_
            refine v_load rfl rfl ⟨rfl, Nat.le_of_ble_eq_true rfl⟩ ?_
            refine v_load rfl rfl ⟨rfl, Nat.le_of_ble_eq_true rfl⟩ ?_
            refine v_push rfl ?_
            refine v_push rfl ?_
            refine v_push rfl ?_
            refine v_callr rfl ⟨Nat.le_of_ble_eq_true rfl, Nat.le_of_ble_eq_true rfl, rfl, Nat.le_of_ble_eq_true rfl, rfl⟩ ?_
            refine S_leaf p1 (by omega) (Or.inr rfl) (by omega) (fun M2 x2 I2 p2 r2 => ?_)
            refine v_callr rfl ⟨Nat.le_of_ble_eq_true rfl, Nat.le_of_ble_eq_true rfl, rfl, Nat.le_of_ble_eq_true rfl, rfl⟩ ?_
            refine S_hang o1 p2 (by omega) r2 (fun M3 p3 o3 => ?_)
            refine v_load rfl rfl ⟨rfl, Nat.le_of_ble_eq_true rfl⟩ ?_
            refine v_load rfl rfl ⟨rfl, Nat.le_of_ble_eq_true rfl⟩ ?_
            refine v_load rfl rfl ⟨rfl, Nat.le_of_ble_eq_true rfl⟩ ?_
            refine v_load rfl rfl ⟨rfl, Nat.le_of_ble_eq_true rfl⟩ ?_
            refine v_push rfl ?_
            refine v_add rfl (by omega) ?_
            refine v_callr rfl ⟨Nat.le_of_ble_eq_true rfl, Nat.le_of_ble_eq_true rfl, rfl, Nat.le_of_ble_eq_true rfl, rfl⟩ ?_
            refine hE (ne + 1) (a + 1) _ M3 (d + 1) _ τe eb e1 p3 (by have := sgn_lt (T := T) (i := a) (by omega); omega) (by omega) (by omega) (by omega) (by omega) (by omega) (fun M4 x4 I4 p4 r4 => ?_)
            refine v_callr rfl ⟨Nat.le_of_ble_eq_true rfl, Nat.le_of_ble_eq_true rfl, rfl, Nat.le_of_ble_eq_true rfl, rfl⟩ ?_
            refine S_hang o3 p4 (by omega) r4 (fun M5 p5 o5 => ?_)
            refine v_load rfl rfl ⟨rfl, Nat.le_of_ble_eq_true rfl⟩ ?_
            refine v_load rfl rfl ⟨rfl, Nat.le_of_ble_eq_true rfl⟩ ?_
            refine v_load rfl rfl ⟨rfl, Nat.le_of_ble_eq_true rfl⟩ ?_
            refine v_push rfl ?_
            refine v_callr rfl ⟨Nat.le_of_ble_eq_true rfl, Nat.le_of_ble_eq_true rfl, rfl, Nat.le_of_ble_eq_true rfl, rfl⟩ ?_
            refine S_closing p5 (by omega) (by omega) (fun M6 x6 I6 p6 r6 => ?_)
            refine v_callr rfl ⟨Nat.le_of_ble_eq_true rfl, Nat.le_of_ble_eq_true rfl, rfl, Nat.le_of_ble_eq_true rfl, rfl⟩ ?_
            refine S_hang o5 p6 (by omega) r6 (fun M7 p7 o7 => ?_)
            refine v_load rfl rfl ⟨rfl, Nat.le_of_ble_eq_true rfl⟩ ?_
            refine v_load rfl rfl ⟨rfl, Nat.le_of_ble_eq_true rfl⟩ ?_
            refine v_callr rfl ⟨Nat.le_of_ble_eq_true rfl, Nat.le_of_ble_eq_true rfl, rfl, Nat.le_of_ble_eq_true rfl, rfl⟩ ?_
            refine S_shut o7 p7 (fun M8 p8 r8 => ?_)
            refine v_ret rfl rfl ?_
            exact GE_fin (by omega) p8 r8 k
          · rw [if_pos (Or.inr c5)] at hp
            obtain ⟨rfl, rfl⟩ : lfN 17 a 0 0 = τ ∧ a = a' := by simpa using hp
            rw [lfN_len] at hh k
            refine v_load rfl rfl ⟨rfl, Nat.le_of_ble_eq_true rfl⟩ ?_
            refine v_push rfl ?_
            refine v_push rfl ?_
            refine v_push rfl ?_
            refine v_callr rfl ⟨Nat.le_of_ble_eq_true rfl, Nat.le_of_ble_eq_true rfl, rfl, Nat.le_of_ble_eq_true rfl, rfl⟩ ?_
            refine S_leaf hP (by omega) (Or.inl rfl) (by omega) (fun M' x I k1 k2 => ?_)
            refine v_ret rfl rfl ?_
            exact k M' x I (by rw [Int.add_zero] at k1; exact k1) k2
      · rw [if_pos c3] at hp
        obtain ⟨rfl, rfl⟩ : lfN 14 a 1 0 = τ ∧ a + 1 = a' := by simpa using hp
        rw [lfN_len] at hh k
        refine v_load rfl rfl ⟨rfl, Nat.le_of_ble_eq_true rfl⟩ ?_
        refine v_push rfl ?_
        refine v_push rfl ?_
        refine v_push rfl ?_
        refine v_callr rfl ⟨Nat.le_of_ble_eq_true rfl, Nat.le_of_ble_eq_true rfl, rfl, Nat.le_of_ble_eq_true rfl, rfl⟩ ?_
        refine S_leaf hP (by omega) (Or.inr rfl) (by omega) (fun M' x I k1 k2 => ?_)
        refine v_ret rfl rfl ?_
        exact k M' x I k1 k2
    · rw [if_pos c2] at hp
      obtain ⟨rfl, rfl⟩ : lfN 13 a 1 0 = τ ∧ a + 1 = a' := by simpa using hp
      rw [lfN_len] at hh k
      refine v_load rfl rfl ⟨rfl, Nat.le_of_ble_eq_true rfl⟩ ?_
      refine v_push rfl ?_
      refine v_push rfl ?_
      refine v_push rfl ?_
      refine v_callr rfl ⟨Nat.le_of_ble_eq_true rfl, Nat.le_of_ble_eq_true rfl, rfl, Nat.le_of_ble_eq_true rfl, rfl⟩ ?_
      refine S_leaf hP (by omega) (Or.inr rfl) (by omega) (fun M' x I k1 k2 => ?_)
      refine v_ret rfl rfl ?_
      exact k M' x I k1 k2
  · rw [z_if01] at c1
    have c1 := Decidable.not_not.mp c1
    rw [if_pos c1] at hp
    obtain ⟨rfl, rfl⟩ : lfN 12 a 1 0 = τ ∧ a + 1 = a' := by simpa using hp
    rw [lfN_len] at hh k
    refine v_load rfl rfl ⟨rfl, Nat.le_of_ble_eq_true rfl⟩ ?_
    refine v_push rfl ?_
    refine v_push rfl ?_
    refine v_push rfl ?_
    refine v_callr rfl ⟨Nat.le_of_ble_eq_true rfl, Nat.le_of_ble_eq_true rfl, rfl, Nat.le_of_ble_eq_true rfl, rfl⟩ ?_
    refine S_leaf hP (by omega) (Or.inr rfl) (by omega) (fun M' x I k1 k2 => ?_)
    refine v_ret rfl rfl ?_
    exact k M' x I k1 k2
theorem g_loop7 (hT : tkOK T) (hE : GE L T f 5 47 4) (hL : GL L T f 7 46 5) : GL L T (f + 1) 7 46 5 := by
  intro ne a h lo x turn M0 M d Q le τ I a' w hp hP hR hlo hup ht0 hta hal hh hn0 hn1 hd k
  obtain ⟨d, rfl⟩ : ∃ e, d = e + 2 := ⟨d - 2, by omega⟩
  have p2 := hP.2.1
  have hl : (T.length : Int) ≤ 300 := by have := hP.2.2.1.2.1; omega
  have ha0 := hP.2.2.2.2.2.1
  have hle : le ≠ [] := (tr_mem hR.1).2.2.2
  unfold P at hp
  simp only at hp
  by_cases hc : sgn T a = 42 ∨ sgn T a = 47
  · rw [if_pos hc] at hp
    have hlt := (sgn_lt (T := T) (i := a) (by omega)).2
    obtain ⟨e, e1, e2⟩ := ob_some hp
    obtain ⟨τe, q1, q2, q3, q4, q5, q6, q7⟩ := P_ok5 hT e1 (by omega) (by omega)
    obtain ⟨ea, eb⟩ := e
    have q1 : ea = [τe] := q1
    subst q1
    have q3 : a + 1 ≤ eb := q3
    have q4 : eb ≤ (T.length : Int) := q4
    have e2 : P T f 7 ne (mkN 11 (nFr le) eb 0 ([le, lfN 16 a 1 (sgn T a)] ++ [τe])) eb = some ([τ], a') := e2
    have hlen : (mkN 11 (nFr le) eb 0 ([le, lfN 16 a 1 (sgn T a)] ++ [τe])).length = le.length + τe.length + 2 := by
      rw [mkN_len]; simp only [List.flatten_append, List.flatten_cons, List.flatten_nil, List.append_nil, List.length_append, lfN_len]; omega
    have hge := P_ge T _ _ _ _ _ _ (by decide) e2
    rw [show ([τ] : List (List zN)).flatten = τ by simp, hlen] at hge
    have hup2 : nUp (mkN 11 (nFr le) eb 0 ([le, lfN 16 a 1 (sgn T a)] ++ [τe])) = eb := mkN_up
    refine v_load rfl rfl ⟨rfl, Nat.le_of_ble_eq_true rfl⟩ ?_
    refine v_push rfl ?_
    refine v_ige rfl (fun h => absurd h (by omega)) (fun _ => ?_)
    refine v_load rfl rfl ⟨rfl, Nat.le_of_ble_eq_true rfl⟩ ?_
    refine v_push rfl ?_
    refine v_push rfl ?_
    refine v_callr rfl ⟨Nat.le_of_ble_eq_true rfl, Nat.le_of_ble_eq_true rfl, rfl, Nat.le_of_ble_eq_true rfl, rfl⟩ ?_
    refine S_isNext hP ?_
    rw [if_pos hc]
    refine v_ifeq rfl (fun h => absurd h (by omega)) (fun _ => ?_)
    refine v_load rfl rfl ⟨rfl, Nat.le_of_ble_eq_true rfl⟩ ?_
    refine v_push rfl ?_
    refine v_load rfl rfl ⟨rfl, Nat.le_of_ble_eq_true rfl⟩ ?_
    refine v_callr rfl ⟨Nat.le_of_ble_eq_true rfl, Nat.le_of_ble_eq_true rfl, rfl, Nat.le_of_ble_eq_true rfl, rfl⟩ ?_
    refine S_over hP hR.1 (hR.2.1 x (tr_mem hR.1).1).2 (by omega) (by omega) (fun M1 p1 o1 => ?_)
    refine v_store rfl ⟨rfl, Nat.le_of_ble_eq_true rfl, Nat.le_of_ble_eq_true rfl, rfl⟩ rfl ?_
    refine v_load rfl rfl ⟨rfl, Nat.le_of_ble_eq_true rfl⟩ ?_
    refine v_load rfl rfl ⟨rfl, Nat.le_of_ble_eq_true rfl⟩ ?_
    refine v_load rfl rfl ⟨rfl, Nat.le_of_ble_eq_true rfl⟩ ?_
    refine v_callr rfl ⟨Nat.le_of_ble_eq_true rfl, Nat.le_of_ble_eq_true rfl, rfl, Nat.le_of_ble_eq_true rfl, rfl⟩ ?_
    refine S_hangL o1 hR hlo p1 (fun M2 p2 o2 => ?_)
    refine v_load rfl rfl ⟨rfl, Nat.le_of_ble_eq_true rfl⟩ ?_
    refine v_load rfl rfl ⟨rfl, Nat.le_of_ble_eq_true rfl⟩ ?_
    refine v_load rfl rfl ⟨rfl, Nat.le_of_ble_eq_true rfl⟩ ?_
    refine v_push rfl ?_
    refine v_push rfl ?_
    refine v_load rfl rfl ⟨rfl, Nat.le_of_ble_eq_true rfl⟩ ?_
    refine v_getp rfl rfl rfl ?_
    refine v_load rfl rfl ⟨rfl, Nat.le_of_ble_eq_true rfl⟩ ?_
    refine v_getx rfl rfl (p2.2.1) ?_
    refine v_callr rfl ⟨Nat.le_of_ble_eq_true rfl, Nat.le_of_ble_eq_true rfl, rfl, Nat.le_of_ble_eq_true rfl, rfl⟩ ?_
    refine S_sgn p2 ?_
    refine v_callr rfl ⟨Nat.le_of_ble_eq_true rfl, Nat.le_of_ble_eq_true rfl, rfl, Nat.le_of_ble_eq_true rfl, rfl⟩ ?_
    refine S_leaf p2 (by omega) (Or.inr rfl) (by omega) (fun M3 x3 I3 p3 r3 => ?_)
    refine v_callr rfl ⟨Nat.le_of_ble_eq_true rfl, Nat.le_of_ble_eq_true rfl, rfl, Nat.le_of_ble_eq_true rfl, rfl⟩ ?_
    refine S_hang o2 p3 (by omega) r3 (fun M4 p4 o4 => ?_)
    refine v_load rfl rfl ⟨rfl, Nat.le_of_ble_eq_true rfl⟩ ?_
    refine v_load rfl rfl ⟨rfl, Nat.le_of_ble_eq_true rfl⟩ ?_
    refine v_load rfl rfl ⟨rfl, Nat.le_of_ble_eq_true rfl⟩ ?_
    refine v_load rfl rfl ⟨rfl, Nat.le_of_ble_eq_true rfl⟩ ?_
    refine v_callr rfl ⟨Nat.le_of_ble_eq_true rfl, Nat.le_of_ble_eq_true rfl, rfl, Nat.le_of_ble_eq_true rfl, rfl⟩ ?_
    refine hE ne (a + 1) _ M4 (d + 1) _ τe eb e1 p4 (by omega) (by omega) (by omega) hn0 hn1 (by omega) (fun M5 x5 I5 p5 r5 => ?_)
    refine v_callr rfl ⟨Nat.le_of_ble_eq_true rfl, Nat.le_of_ble_eq_true rfl, rfl, Nat.le_of_ble_eq_true rfl, rfl⟩ ?_
    refine S_hang o4 p5 (by omega) r5 (fun M6 p6 o6 => ?_)
    refine v_load rfl rfl ⟨rfl, Nat.le_of_ble_eq_true rfl⟩ ?_
    refine v_load rfl rfl ⟨rfl, Nat.le_of_ble_eq_true rfl⟩ ?_
    refine v_callr rfl ⟨Nat.le_of_ble_eq_true rfl, Nat.le_of_ble_eq_true rfl, rfl, Nat.le_of_ble_eq_true rfl, rfl⟩ ?_
    refine S_shut o6 p6 (fun M7 p7 r7 => ?_)
    refine v_store rfl ⟨rfl, Nat.le_of_ble_eq_true rfl, Nat.le_of_ble_eq_true rfl, rfl⟩ rfl ?_
    refine v_iinc rfl rfl rfl (by omega) rfl ?_
    refine v_goto rfl ?_
    refine hL ne eb _ lo h (turn + 1) M0 M7 (d + 2) Q _ τ _ a' _ e2 p7 r7 (by omega) hup2 (by omega) (by omega) q4 (by rw [hlen]; omega) hn0 hn1 hd ?_
    rw [hlen]
    intro M' x' I' k1 k2
    exact GE_fin (by omega) k1 k2 k
  · rw [if_neg hc] at hp
    obtain ⟨rfl, rfl⟩ : le = τ ∧ a = a' := by simpa using hp
    refine v_load rfl rfl ⟨rfl, Nat.le_of_ble_eq_true rfl⟩ ?_
    refine v_push rfl ?_
    refine v_ige rfl (fun c1 => ?_) (fun c1 => ?_)
    · refine v_load rfl rfl ⟨rfl, Nat.le_of_ble_eq_true rfl⟩ ?_
      refine v_ret rfl rfl ?_
      exact GE_fin (by omega) hP hR k
    · refine v_load rfl rfl ⟨rfl, Nat.le_of_ble_eq_true rfl⟩ ?_
      refine v_push rfl ?_
      refine v_push rfl ?_
      refine v_callr rfl ⟨Nat.le_of_ble_eq_true rfl, Nat.le_of_ble_eq_true rfl, rfl, Nat.le_of_ble_eq_true rfl, rfl⟩ ?_
      refine S_isNext hP ?_
      rw [if_neg hc]
      refine v_ifeq rfl (fun _ => ?_) (fun h => absurd h (by omega))
      refine v_load rfl rfl ⟨rfl, Nat.le_of_ble_eq_true rfl⟩ ?_
      refine v_ret rfl rfl ?_
      exact GE_fin (by omega) hP hR k
theorem g_loop6 (hT : tkOK T) (hE : GE L T f 4 46 5) (hL : GL L T f 6 45 6) : GL L T (f + 1) 6 45 6 := by
  intro ne a h lo x turn M0 M d Q le τ I a' w hp hP hR hlo hup ht0 hta hal hh hn0 hn1 hd k
  obtain ⟨d, rfl⟩ : ∃ e, d = e + 2 := ⟨d - 2, by omega⟩
  have p2 := hP.2.1
  have hl : (T.length : Int) ≤ 300 := by have := hP.2.2.1.2.1; omega
  have ha0 := hP.2.2.2.2.2.1
  have hle : le ≠ [] := (tr_mem hR.1).2.2.2
  unfold P at hp
  simp only at hp
  by_cases hc : sgn T a = 43 ∨ sgn T a = 45
  · rw [if_pos hc] at hp
    have hlt := (sgn_lt (T := T) (i := a) (by omega)).2
    obtain ⟨e, e1, e2⟩ := ob_some hp
    obtain ⟨τe, q1, q2, q3, q4, q5, q6, q7⟩ := P_ok4 hT e1 (by omega) (by omega)
    obtain ⟨ea, eb⟩ := e
    have q1 : ea = [τe] := q1
    subst q1
    have q3 : a + 1 ≤ eb := q3
    have q4 : eb ≤ (T.length : Int) := q4
    have e2 : P T f 6 ne (mkN 10 (nFr le) eb 0 ([le, lfN 16 a 1 (sgn T a)] ++ [τe])) eb = some ([τ], a') := e2
    have hlen : (mkN 10 (nFr le) eb 0 ([le, lfN 16 a 1 (sgn T a)] ++ [τe])).length = le.length + τe.length + 2 := by
      rw [mkN_len]; simp only [List.flatten_append, List.flatten_cons, List.flatten_nil, List.append_nil, List.length_append, lfN_len]; omega
    have hge := P_ge T _ _ _ _ _ _ (by decide) e2
    rw [show ([τ] : List (List zN)).flatten = τ by simp, hlen] at hge
    have hup2 : nUp (mkN 10 (nFr le) eb 0 ([le, lfN 16 a 1 (sgn T a)] ++ [τe])) = eb := mkN_up
    refine v_load rfl rfl ⟨rfl, Nat.le_of_ble_eq_true rfl⟩ ?_
    refine v_push rfl ?_
    refine v_ige rfl (fun h => absurd h (by omega)) (fun _ => ?_)
    refine v_load rfl rfl ⟨rfl, Nat.le_of_ble_eq_true rfl⟩ ?_
    refine v_push rfl ?_
    refine v_push rfl ?_
    refine v_callr rfl ⟨Nat.le_of_ble_eq_true rfl, Nat.le_of_ble_eq_true rfl, rfl, Nat.le_of_ble_eq_true rfl, rfl⟩ ?_
    refine S_isNext hP ?_
    rw [if_pos hc]
    refine v_ifeq rfl (fun h => absurd h (by omega)) (fun _ => ?_)
    refine v_load rfl rfl ⟨rfl, Nat.le_of_ble_eq_true rfl⟩ ?_
    refine v_push rfl ?_
    refine v_load rfl rfl ⟨rfl, Nat.le_of_ble_eq_true rfl⟩ ?_
    refine v_callr rfl ⟨Nat.le_of_ble_eq_true rfl, Nat.le_of_ble_eq_true rfl, rfl, Nat.le_of_ble_eq_true rfl, rfl⟩ ?_
    refine S_over hP hR.1 (hR.2.1 x (tr_mem hR.1).1).2 (by omega) (by omega) (fun M1 p1 o1 => ?_)
    refine v_store rfl ⟨rfl, Nat.le_of_ble_eq_true rfl, Nat.le_of_ble_eq_true rfl, rfl⟩ rfl ?_
    refine v_load rfl rfl ⟨rfl, Nat.le_of_ble_eq_true rfl⟩ ?_
    refine v_load rfl rfl ⟨rfl, Nat.le_of_ble_eq_true rfl⟩ ?_
    refine v_load rfl rfl ⟨rfl, Nat.le_of_ble_eq_true rfl⟩ ?_
    refine v_callr rfl ⟨Nat.le_of_ble_eq_true rfl, Nat.le_of_ble_eq_true rfl, rfl, Nat.le_of_ble_eq_true rfl, rfl⟩ ?_
    refine S_hangL o1 hR hlo p1 (fun M2 p2 o2 => ?_)
    refine v_load rfl rfl ⟨rfl, Nat.le_of_ble_eq_true rfl⟩ ?_
    refine v_load rfl rfl ⟨rfl, Nat.le_of_ble_eq_true rfl⟩ ?_
    refine v_load rfl rfl ⟨rfl, Nat.le_of_ble_eq_true rfl⟩ ?_
    refine v_push rfl ?_
    refine v_push rfl ?_
    refine v_load rfl rfl ⟨rfl, Nat.le_of_ble_eq_true rfl⟩ ?_
    refine v_getp rfl rfl rfl ?_
    refine v_load rfl rfl ⟨rfl, Nat.le_of_ble_eq_true rfl⟩ ?_
    refine v_getx rfl rfl (p2.2.1) ?_
    refine v_callr rfl ⟨Nat.le_of_ble_eq_true rfl, Nat.le_of_ble_eq_true rfl, rfl, Nat.le_of_ble_eq_true rfl, rfl⟩ ?_
    refine S_sgn p2 ?_
    refine v_callr rfl ⟨Nat.le_of_ble_eq_true rfl, Nat.le_of_ble_eq_true rfl, rfl, Nat.le_of_ble_eq_true rfl, rfl⟩ ?_
    refine S_leaf p2 (by omega) (Or.inr rfl) (by omega) (fun M3 x3 I3 p3 r3 => ?_)
    refine v_callr rfl ⟨Nat.le_of_ble_eq_true rfl, Nat.le_of_ble_eq_true rfl, rfl, Nat.le_of_ble_eq_true rfl, rfl⟩ ?_
    refine S_hang o2 p3 (by omega) r3 (fun M4 p4 o4 => ?_)
    refine v_load rfl rfl ⟨rfl, Nat.le_of_ble_eq_true rfl⟩ ?_
    refine v_load rfl rfl ⟨rfl, Nat.le_of_ble_eq_true rfl⟩ ?_
    refine v_load rfl rfl ⟨rfl, Nat.le_of_ble_eq_true rfl⟩ ?_
    refine v_load rfl rfl ⟨rfl, Nat.le_of_ble_eq_true rfl⟩ ?_
    refine v_callr rfl ⟨Nat.le_of_ble_eq_true rfl, Nat.le_of_ble_eq_true rfl, rfl, Nat.le_of_ble_eq_true rfl, rfl⟩ ?_
    refine hE ne (a + 1) _ M4 (d + 1) _ τe eb e1 p4 (by omega) (by omega) (by omega) hn0 hn1 (by omega) (fun M5 x5 I5 p5 r5 => ?_)
    refine v_callr rfl ⟨Nat.le_of_ble_eq_true rfl, Nat.le_of_ble_eq_true rfl, rfl, Nat.le_of_ble_eq_true rfl, rfl⟩ ?_
    refine S_hang o4 p5 (by omega) r5 (fun M6 p6 o6 => ?_)
    refine v_load rfl rfl ⟨rfl, Nat.le_of_ble_eq_true rfl⟩ ?_
    refine v_load rfl rfl ⟨rfl, Nat.le_of_ble_eq_true rfl⟩ ?_
    refine v_callr rfl ⟨Nat.le_of_ble_eq_true rfl, Nat.le_of_ble_eq_true rfl, rfl, Nat.le_of_ble_eq_true rfl, rfl⟩ ?_
    refine S_shut o6 p6 (fun M7 p7 r7 => ?_)
    refine v_store rfl ⟨rfl, Nat.le_of_ble_eq_true rfl, Nat.le_of_ble_eq_true rfl, rfl⟩ rfl ?_
    refine v_iinc rfl rfl rfl (by omega) rfl ?_
    refine v_goto rfl ?_
    refine hL ne eb _ lo h (turn + 1) M0 M7 (d + 2) Q _ τ _ a' _ e2 p7 r7 (by omega) hup2 (by omega) (by omega) q4 (by rw [hlen]; omega) hn0 hn1 hd ?_
    rw [hlen]
    intro M' x' I' k1 k2
    exact GE_fin (by omega) k1 k2 k
  · rw [if_neg hc] at hp
    obtain ⟨rfl, rfl⟩ : le = τ ∧ a = a' := by simpa using hp
    refine v_load rfl rfl ⟨rfl, Nat.le_of_ble_eq_true rfl⟩ ?_
    refine v_push rfl ?_
    refine v_ige rfl (fun c1 => ?_) (fun c1 => ?_)
    · refine v_load rfl rfl ⟨rfl, Nat.le_of_ble_eq_true rfl⟩ ?_
      refine v_ret rfl rfl ?_
      exact GE_fin (by omega) hP hR k
    · refine v_load rfl rfl ⟨rfl, Nat.le_of_ble_eq_true rfl⟩ ?_
      refine v_push rfl ?_
      refine v_push rfl ?_
      refine v_callr rfl ⟨Nat.le_of_ble_eq_true rfl, Nat.le_of_ble_eq_true rfl, rfl, Nat.le_of_ble_eq_true rfl, rfl⟩ ?_
      refine S_isNext hP ?_
      rw [if_neg hc]
      refine v_ifeq rfl (fun _ => ?_) (fun h => absurd h (by omega))
      refine v_load rfl rfl ⟨rfl, Nat.le_of_ble_eq_true rfl⟩ ?_
      refine v_ret rfl rfl ?_
      exact GE_fin (by omega) hP hR k
theorem g_mode4 (hT : tkOK T) (hE : GE L T f 5 47 4) (hL : GL L T f 7 46 5) : GE L T (f + 1) 4 46 5 := by
  intro ne a h M d Q τ a' hp hP hal _ hh hn0 hn1 hd k
  obtain ⟨d, rfl⟩ : ∃ e, d = e + 2 := ⟨d - 2, by omega⟩
  have hl : (T.length : Int) ≤ 300 := by have := hP.2.2.1.2.1; omega
  have ha0 := hP.2.2.2.2.2.1
  unfold P at hp
  simp only at hp
  obtain ⟨e, e1, e2⟩ := ob_some hp
  obtain ⟨τe, q1, q2, q3, q4, q5, q6, q7⟩ := P_ok5 hT e1 (by omega) (by omega)
  obtain ⟨ea, eb⟩ := e
  have q1 : ea = [τe] := q1
  subst q1
  have q3 : a ≤ eb := q3
  have q4 : eb ≤ (T.length : Int) := q4
  have q6 : nUp τe = eb := q6
  have e2 : P T f 7 ne ([τe] : List (List zN)).flatten eb = some ([τ], a') := e2
  rw [show ([τe] : List (List zN)).flatten = τe by simp] at e2
  have hge := P_ge T _ _ _ _ _ _ (by decide) e2
  rw [show ([τ] : List (List zN)).flatten = τ by simp] at hge
  refine v_in ?_
  refine v_load rfl rfl ⟨rfl, Nat.le_of_ble_eq_true rfl⟩ ?_
  refine v_load rfl rfl ⟨rfl, Nat.le_of_ble_eq_true rfl⟩ ?_
  refine v_callr rfl ⟨Nat.le_of_ble_eq_true rfl, Nat.le_of_ble_eq_true rfl, rfl, Nat.le_of_ble_eq_true rfl, rfl⟩ ?_
  refine hE ne a h M (d + 1) _ τe eb e1 hP hal (by omega) (by omega) hn0 hn1 (by omega) (fun M1 x1 I1 p1 r1 => ?_)
  refine v_store rfl ⟨rfl, Nat.le_of_ble_eq_true rfl, Nat.le_of_ble_eq_true rfl, rfl⟩ rfl ?_
  refine v_push rfl ?_
  refine v_store rfl ⟨rfl, Nat.le_of_ble_eq_true rfl, Nat.le_of_ble_eq_true rfl, rfl⟩ rfl ?_
  refine hL ne eb _ h x1 0 M M1 (d + 2) Q τe τ I1 a' _ e2 p1 r1 (by omega) q6 (by omega) (by omega) q4 (by omega) hn0 hn1 hd (fun M' x' I' k1 k2 => ?_)
  exact GE_fin (by omega) k1 k2 k
theorem g_mode3 (hT : tkOK T) (hE : GE L T f 4 46 5) (hL : GL L T f 6 45 6) : GE L T (f + 1) 3 45 6 := by
  intro ne a h M d Q τ a' hp hP hal _ hh hn0 hn1 hd k
  obtain ⟨d, rfl⟩ : ∃ e, d = e + 2 := ⟨d - 2, by omega⟩
  have hl : (T.length : Int) ≤ 300 := by have := hP.2.2.1.2.1; omega
  have ha0 := hP.2.2.2.2.2.1
  unfold P at hp
  simp only at hp
  obtain ⟨e, e1, e2⟩ := ob_some hp
  obtain ⟨τe, q1, q2, q3, q4, q5, q6, q7⟩ := P_ok4 hT e1 (by omega) (by omega)
  obtain ⟨ea, eb⟩ := e
  have q1 : ea = [τe] := q1
  subst q1
  have q3 : a ≤ eb := q3
  have q4 : eb ≤ (T.length : Int) := q4
  have q6 : nUp τe = eb := q6
  have e2 : P T f 6 ne ([τe] : List (List zN)).flatten eb = some ([τ], a') := e2
  rw [show ([τe] : List (List zN)).flatten = τe by simp] at e2
  have hge := P_ge T _ _ _ _ _ _ (by decide) e2
  rw [show ([τ] : List (List zN)).flatten = τ by simp] at hge
  refine v_in ?_
  refine v_load rfl rfl ⟨rfl, Nat.le_of_ble_eq_true rfl⟩ ?_
  refine v_load rfl rfl ⟨rfl, Nat.le_of_ble_eq_true rfl⟩ ?_
  refine v_callr rfl ⟨Nat.le_of_ble_eq_true rfl, Nat.le_of_ble_eq_true rfl, rfl, Nat.le_of_ble_eq_true rfl, rfl⟩ ?_
  refine hE ne a h M (d + 1) _ τe eb e1 hP hal (by omega) (by omega) hn0 hn1 (by omega) (fun M1 x1 I1 p1 r1 => ?_)
  refine v_store rfl ⟨rfl, Nat.le_of_ble_eq_true rfl, Nat.le_of_ble_eq_true rfl, rfl⟩ rfl ?_
  refine v_push rfl ?_
  refine v_store rfl ⟨rfl, Nat.le_of_ble_eq_true rfl, Nat.le_of_ble_eq_true rfl, rfl⟩ rfl ?_
  refine hL ne eb _ h x1 0 M M1 (d + 2) Q τe τ I1 a' _ e2 p1 r1 (by omega) q6 (by omega) (by omega) q4 (by omega) hn0 hn1 hd (fun M' x' I' k1 k2 => ?_)
  exact GE_fin (by omega) k1 k2 k
end GR
