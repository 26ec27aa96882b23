section GR2
variable {L : Nat} {T : List zT} {f : Nat}
/-- the list's loop within invocation -/
def GLs (L : Nat) (T : List zT) (f : Nat) : Prop := ∀ (ne a h lo x2 x3 fr turn : Int) (M0 M : zM) (d : Nat) (Q : Option zV → zM → Prop) (ks : List zK) (cs : List (List zN)) (a' : Int), P T f 8 ne [] a = some (cs, a') → PS T h a M → OPN lo M0 M x3 4 fr 0 ks h → 0 ≤ turn → turn ≤ a → a ≤ (T.length : Int) → h + (cs.flatten.length : Int) ≤ 1216 → 0 ≤ ne → ne ≤ 10 → 8 * (10 - ne).toNat + 7 ≤ d →
  (∀ M' ks' turn', PS T (h + (cs.flatten.length : Int)) a' M' → OPN lo M0 M' x3 4 fr 0 ks' (h + (cs.flatten.length : Int)) → trs ks' = trs ks ++ cs → v_wp L d 44 125 [(2, 52), (0, ne), (0, x2), (0, x3), (0, turn')] [] M' Q) → v_wp L d 44 72 [(2, 52), (0, ne), (0, x2), (0, x3), (0, turn)] [] M Q
theorem g_list (hT : tkOK T) (hE : GE L T f 3 45 6) (hL : GLs L T f) : GLs L T (f + 1) := by
  intro ne a h lo x2 x3 fr turn M0 M d Q ks cs a' hp hP hO ht0 hta hal hh hn0 hn1 hd k
  obtain ⟨d, rfl⟩ : ∃ e, d = e + 2 := ⟨d - 2, by omega⟩
  have p2 := hP.2.1
  have hl : (T.length : Int) ≤ 300 := by have := hP.2.2.1.2.1; omega
  have ha0 := hP.2.2.2.2.2.1
  unfold P at hp
  simp only at hp
  by_cases hc : sgn T a = 44
  · rw [if_pos hc] at hp
    have hlt := (sgn_lt (T := T) (i := a) (by omega)).2
    obtain ⟨e, e1, e2⟩ := ob_some hp
    obtain ⟨τe, q1, q2, q3, q4, q5, q6, q7⟩ := P_ok3 hT e1 (by omega) (by omega)
    obtain ⟨ea, eb⟩ := e
    have q1 : ea = [τe] := q1
    subst q1
    have q3 : a + 1 ≤ eb := q3
    have q4 : eb ≤ (T.length : Int) := q4
    obtain ⟨r, e3, e4⟩ := ob_some e2
    obtain ⟨rs, rb⟩ := r
    obtain ⟨rfl, rfl⟩ : [lfN 16 a 1 0] ++ [τe] ++ rs = cs ∧ rb = a' := by simpa using e4
    have e3 : P T f 8 ne [] eb = some (rs, rb) := e3
    have hlen : ([lfN 16 a 1 0] ++ [τe] ++ rs).flatten.length = τe.length + rs.flatten.length + 1 := by
      simp only [List.flatten_append, List.flatten_cons, List.flatten_nil, List.append_nil, List.length_append, lfN_len]; omega
    rw [hlen] at hh k
    refine v_load rfl rfl ⟨rfl, Nat.le_of_ble_eq_true rfl⟩ ?_
    refine v_push rfl ?_
    refine v_ige rfl (fun h => absurd h (by omega)) (fun _ => ?_)
    refine v_load rfl rfl ⟨rfl, Nat.le_of_ble_eq_true rfl⟩ ?_
    refine v_getp rfl rfl rfl ?_
    refine v_load rfl rfl ⟨rfl, Nat.le_of_ble_eq_true rfl⟩ ?_
    refine v_getx rfl rfl p2 ?_
    refine v_callr rfl ⟨Nat.le_of_ble_eq_true rfl, Nat.le_of_ble_eq_true rfl, rfl, Nat.le_of_ble_eq_true rfl, rfl⟩ ?_
    refine S_sgn hP ?_
    refine v_push rfl ?_
    refine v_ine rfl (fun h => absurd h (by omega)) (fun _ => ?_)
    refine v_load rfl rfl ⟨rfl, Nat.le_of_ble_eq_true rfl⟩ ?_
    refine v_load rfl rfl ⟨rfl, Nat.le_of_ble_eq_true rfl⟩ ?_
    refine v_load rfl rfl ⟨rfl, Nat.le_of_ble_eq_true rfl⟩ ?_
    refine v_push rfl ?_
    refine v_push rfl ?_
    refine v_push rfl ?_
    refine v_callr rfl ⟨Nat.le_of_ble_eq_true rfl, Nat.le_of_ble_eq_true rfl, rfl, Nat.le_of_ble_eq_true rfl, rfl⟩ ?_
    refine S_leaf hP (by omega) (Or.inr rfl) (by omega) (fun M3 x3 I3 p3 r3 => ?_)
    refine v_callr rfl ⟨Nat.le_of_ble_eq_true rfl, Nat.le_of_ble_eq_true rfl, rfl, Nat.le_of_ble_eq_true rfl, rfl⟩ ?_
    refine S_hang hO p3 (by omega) r3 (fun M4 p4 o4 => ?_)
    refine v_load rfl rfl ⟨rfl, Nat.le_of_ble_eq_true rfl⟩ ?_
    refine v_load rfl rfl ⟨rfl, Nat.le_of_ble_eq_true rfl⟩ ?_
    refine v_load rfl rfl ⟨rfl, Nat.le_of_ble_eq_true rfl⟩ ?_
    refine v_load rfl rfl ⟨rfl, Nat.le_of_ble_eq_true rfl⟩ ?_
    refine v_callr rfl ⟨Nat.le_of_ble_eq_true rfl, Nat.le_of_ble_eq_true rfl, rfl, Nat.le_of_ble_eq_true rfl, rfl⟩ ?_
    refine hE ne (a + 1) _ M4 (d + 1) _ τe eb e1 p4 (by omega) (by omega) (by omega) hn0 hn1 (by omega) (fun M5 x5 I5 p5 r5 => ?_)
    refine v_callr rfl ⟨Nat.le_of_ble_eq_true rfl, Nat.le_of_ble_eq_true rfl, rfl, Nat.le_of_ble_eq_true rfl, rfl⟩ ?_
    refine S_hang o4 p5 (by omega) r5 (fun M6 p6 o6 => ?_)
    refine v_iinc rfl rfl rfl (by omega) rfl ?_
    refine v_goto rfl ?_
    refine hL ne eb _ lo x2 _ fr (turn + 1) M0 M6 (d + 2) Q _ rs rb e3 p6 o6 (by omega) (by omega) q4 (by omega) hn0 hn1 hd ?_
    intro M' ks' turn' k1 k2 k3
    rw [show h + 1 + (τe.length : Int) + (rs.flatten.length : Int) = h + ((τe.length + rs.flatten.length + 1 : Nat) : Int) by omega] at k1 k2
    refine k M' ks' turn' k1 k2 ?_
    rw [k3, trs_snoc, trs_snoc]
    simp
  · rw [if_neg hc] at hp
    obtain ⟨rfl, rfl⟩ : [] = cs ∧ a = a' := by simpa using hp
    have e0 : h + ((([] : List (List zN)).flatten.length : Nat) : Int) = h := by simp
    rw [e0] at k
    refine v_load rfl rfl ⟨rfl, Nat.le_of_ble_eq_true rfl⟩ ?_
    refine v_push rfl ?_
    refine v_ige rfl (fun c1 => ?_) (fun c1 => ?_)
    · exact k M ks turn hP hO (by simp)
    · refine v_load rfl rfl ⟨rfl, Nat.le_of_ble_eq_true rfl⟩ ?_
      refine v_getp rfl rfl rfl ?_
      refine v_load rfl rfl ⟨rfl, Nat.le_of_ble_eq_true rfl⟩ ?_
      refine v_getx rfl rfl p2 ?_
      refine v_callr rfl ⟨Nat.le_of_ble_eq_true rfl, Nat.le_of_ble_eq_true rfl, rfl, Nat.le_of_ble_eq_true rfl, rfl⟩ ?_
      refine S_sgn hP ?_
      refine v_push rfl ?_
      refine v_ine rfl (fun _ => ?_) (fun h => absurd h (by omega))
      exact k M ks turn hP hO (by simp)
/-- methods called from anItem -/
theorem g_assign (hT : tkOK T) (hE : GE L T f 3 45 6) {ne a h : Int} {M : zM} {d : Nat} {Q : Option zV → zM → Prop} {τ : List zN} {eb : Int} (e1 : P T f 3 ne [] (a + 2) = some ([τ], eb)) (hP : PS T h a M) (hal : a + 2 ≤ (T.length : Int)) (hh : h + (τ.length : Int) + 4 ≤ 1216) (hn0 : 0 ≤ ne) (hn1 : ne ≤ 10) (hd : 8 * (10 - ne).toNat + 7 ≤ d)
    (k : ∀ M' x I, PS T (h + (τ.length : Int) + 4) (clos T 59 eb).2 M' → RES h M (h + (τ.length : Int) + 4) M' x (mkN 2 a (clos T 59 eb).2 0 ([lfN 12 a 1 0, lfN 16 (a + 1) 1 0] ++ [τ] ++ [(clos T 59 eb).1])) I → Q (some (0, x)) M') : v_call L d 43 [(2, 52), (0, ne)] M Q := by
  obtain ⟨d, rfl⟩ : ∃ e, d = e + 2 := ⟨d - 2, by omega⟩
  have hl : (T.length : Int) ≤ 300 := by have := hP.2.2.1.2.1; omega
  have ha0 := hP.2.2.2.2.2.1
  obtain ⟨τe, q1, q2, q3, q4, q5, q6, q7⟩ := P_ok3 hT e1 (by omega) (by omega)
  have q4 : eb ≤ (T.length : Int) := q4
  have q3 : a + 2 ≤ eb := q3
  refine v_in ?_
  refine v_load rfl rfl ⟨rfl, Nat.le_of_ble_eq_true rfl⟩ ?_
  refine v_push rfl ?_
  refine v_push rfl ?_
  refine v_push rfl ?_
  refine v_callr rfl ⟨Nat.le_of_ble_eq_true rfl, Nat.le_of_ble_eq_true rfl, rfl, Nat.le_of_ble_eq_true rfl, rfl⟩ ?_
  refine S_open hP (by omega) (by omega) (fun M1 p1 o1 => ?_)
  refine v_store rfl ⟨rfl, Nat.le_of_ble_eq_true rfl, Nat.le_of_ble_eq_true rfl, rfl⟩ rfl ?_
  refine v_load rfl rfl ⟨rfl, Nat.le_of_ble_eq_true rfl⟩ ?_
  refine v_load rfl rfl ⟨rfl, Nat.le_of_ble_eq_true rfl⟩ ?_
  refine v_load rfl rfl ⟨rfl, Nat.le_of_ble_eq_true rfl⟩ ?_
  refine v_push rfl ?_
  refine v_push rfl ?_
  refine v_push rfl ?_
  refine v_callr rfl ⟨Nat.le_of_ble_eq_true rfl, Nat.le_of_ble_eq_true rfl, rfl, Nat.le_of_ble_eq_true rfl, rfl⟩ ?_
  refine S_leaf p1 (by omega) (Or.inr rfl) (by omega) (fun M2 x2 I2 p2 r2 => ?_)
  refine v_callr rfl ⟨Nat.le_of_ble_eq_true rfl, Nat.le_of_ble_eq_true rfl, rfl, Nat.le_of_ble_eq_true rfl, rfl⟩ ?_
  refine S_hang o1 p2 (by omega) r2 (fun M3 p3 o3 => ?_)
  refine v_load rfl rfl ⟨rfl, Nat.le_of_ble_eq_true rfl⟩ ?_
  refine v_load rfl rfl ⟨rfl, Nat.le_of_ble_eq_true rfl⟩ ?_
  refine v_load rfl rfl ⟨rfl, Nat.le_of_ble_eq_true rfl⟩ ?_
  refine v_push rfl ?_
  refine v_push rfl ?_
  refine v_push rfl ?_
  refine v_callr rfl ⟨Nat.le_of_ble_eq_true rfl, Nat.le_of_ble_eq_true rfl, rfl, Nat.le_of_ble_eq_true rfl, rfl⟩ ?_
  refine S_leaf p3 (by omega) (Or.inr rfl) (by omega) (fun M4 x4 I4 p4 r4 => ?_)
  refine v_callr rfl ⟨Nat.le_of_ble_eq_true rfl, Nat.le_of_ble_eq_true rfl, rfl, Nat.le_of_ble_eq_true rfl, rfl⟩ ?_
  refine S_hang o3 p4 (by omega) r4 (fun M5 p5 o5 => ?_)
  rw [show a + 1 + 1 = a + 2 by omega] at p5
  refine v_load rfl rfl ⟨rfl, Nat.le_of_ble_eq_true rfl⟩ ?_
  refine v_load rfl rfl ⟨rfl, Nat.le_of_ble_eq_true rfl⟩ ?_
  refine v_load rfl rfl ⟨rfl, Nat.le_of_ble_eq_true rfl⟩ ?_
  refine v_load rfl rfl ⟨rfl, Nat.le_of_ble_eq_true rfl⟩ ?_
  refine v_callr rfl ⟨Nat.le_of_ble_eq_true rfl, Nat.le_of_ble_eq_true rfl, rfl, Nat.le_of_ble_eq_true rfl, rfl⟩ ?_
  refine hE ne (a + 2) _ M5 (d + 1) _ τ eb e1 p5 (by omega) (by omega) (by omega) hn0 hn1 (by omega) (fun M6 x6 I6 p6 r6 => ?_)
  refine v_callr rfl ⟨Nat.le_of_ble_eq_true rfl, Nat.le_of_ble_eq_true rfl, rfl, Nat.le_of_ble_eq_true rfl, rfl⟩ ?_
  refine S_hang o5 p6 (by omega) r6 (fun M7 p7 o7 => ?_)
  refine v_load rfl rfl ⟨rfl, Nat.le_of_ble_eq_true rfl⟩ ?_
  refine v_load rfl rfl ⟨rfl, Nat.le_of_ble_eq_true rfl⟩ ?_
  refine v_load rfl rfl ⟨rfl, Nat.le_of_ble_eq_true rfl⟩ ?_
  refine v_push rfl ?_
  refine v_callr rfl ⟨Nat.le_of_ble_eq_true rfl, Nat.le_of_ble_eq_true rfl, rfl, Nat.le_of_ble_eq_true rfl, rfl⟩ ?_
  refine S_closing p7 (by omega) (by omega) (fun M8 x8 I8 p8 r8 => ?_)
  refine v_callr rfl ⟨Nat.le_of_ble_eq_true rfl, Nat.le_of_ble_eq_true rfl, rfl, Nat.le_of_ble_eq_true rfl, rfl⟩ ?_
  refine S_hang o7 p8 (by omega) r8 (fun M9 p9 o9 => ?_)
  refine v_load rfl rfl ⟨rfl, Nat.le_of_ble_eq_true rfl⟩ ?_
  refine v_load rfl rfl ⟨rfl, Nat.le_of_ble_eq_true rfl⟩ ?_
  refine v_callr rfl ⟨Nat.le_of_ble_eq_true rfl, Nat.le_of_ble_eq_true rfl, rfl, Nat.le_of_ble_eq_true rfl, rfl⟩ ?_
  refine S_shut o9 p9 (fun M10 p10 r10 => ?_)
  refine v_ret rfl rfl ?_
  exact GE_fin (by omega) p10 r10 k
theorem g_call (hT : tkOK T) (hE : GE L T f 3 45 6) (hL : GLs L T f) {ne a h : Int} {M : zM} {d : Nat} {Q : Option zV → zM → Prop} {qs : List (List zN)} {qb : Int} (e1 : (if sgn T (a + 2) = 41 then some ([], a + 2) else (P T f 3 ne [] (a + 2)).bind fun e => (P T f 8 ne [] e.2).bind fun r => some ([mkN 4 (a + 2) r.2 0 (e.1 ++ r.1)], r.2)) = some (qs, qb)) (hP : PS T h a M) (hal : a + 2 ≤ (T.length : Int)) (hh : h + (qs.flatten.length : Int) + 5 ≤ 1216) (hn0 : 0 ≤ ne) (hn1 : ne ≤ 10) (hd : 8 * (10 - ne).toNat + 7 ≤ d)
    (k : ∀ M' x I, PS T (h + (qs.flatten.length : Int) + 5) (clos T 59 (clos T 41 qb).2).2 M' → RES h M (h + (qs.flatten.length : Int) + 5) M' x (mkN 3 a (clos T 59 (clos T 41 qb).2).2 0 ([lfN 12 a 1 0, lfN 16 (a + 1) 1 40] ++ qs ++ [(clos T 41 qb).1, (clos T 59 (clos T 41 qb).2).1])) I → Q (some (0, x)) M') : v_call L d 44 [(2, 52), (0, ne)] M Q := by
  obtain ⟨d, rfl⟩ : ∃ e, d = e + 2 := ⟨d - 2, by omega⟩
  have hl : (T.length : Int) ≤ 300 := by have := hP.2.2.1.2.1; omega
  have ha0 := hP.2.2.2.2.2.1
  have rest : ∀ (M1 : zM) (ks : List zK) (h1 : Int) (ll : List zV), ll.length = 3 → PS T h1 qb M1 → OPN h M M1 h 3 a 0 ks h1 → trs ks = [lfN 12 a 1 0, lfN 16 (a + 1) 1 40] ++ qs → h1 = h + (qs.flatten.length : Int) + 3 → 0 ≤ qb → qb ≤ (T.length : Int) → ∀ u v, v_wp L (d + 2) 44 135 [(2, 52), (0, ne), (0, h), u, v] [] M1 Q := by
    intro M1 ks h1 ll _ p7 o7 hks hh1 hq0 hq u v
    have hc := clos_ok (T := T) (sg := 41) (at_ := qb) ⟨hq0, hq⟩ (by decide)
    refine v_load rfl rfl ⟨rfl, Nat.le_of_ble_eq_true rfl⟩ ?_
    refine v_load rfl rfl ⟨rfl, Nat.le_of_ble_eq_true rfl⟩ ?_
    refine v_load rfl rfl ⟨rfl, Nat.le_of_ble_eq_true rfl⟩ ?_
    refine v_push rfl ?_
    refine v_callr rfl ⟨Nat.le_of_ble_eq_true rfl, Nat.le_of_ble_eq_true rfl, rfl, Nat.le_of_ble_eq_true rfl, rfl⟩ ?_
    refine S_closing p7 (by omega) (by omega) (fun M8 x8 I8 p8 r8 => ?_)
    refine v_callr rfl ⟨Nat.le_of_ble_eq_true rfl, Nat.le_of_ble_eq_true rfl, rfl, Nat.le_of_ble_eq_true rfl, rfl⟩ ?_
    refine S_hang o7 p8 (by omega) r8 (fun M9 p9 o9 => ?_)
    refine v_load rfl rfl ⟨rfl, Nat.le_of_ble_eq_true rfl⟩ ?_
    refine v_load rfl rfl ⟨rfl, Nat.le_of_ble_eq_true rfl⟩ ?_
    refine v_load rfl rfl ⟨rfl, Nat.le_of_ble_eq_true rfl⟩ ?_
    refine v_push rfl ?_
    refine v_callr rfl ⟨Nat.le_of_ble_eq_true rfl, Nat.le_of_ble_eq_true rfl, rfl, Nat.le_of_ble_eq_true rfl, rfl⟩ ?_
    refine S_closing p9 (by omega) (by omega) (fun M10 x10 I10 p10 r10 => ?_)
    refine v_callr rfl ⟨Nat.le_of_ble_eq_true rfl, Nat.le_of_ble_eq_true rfl, rfl, Nat.le_of_ble_eq_true rfl, rfl⟩ ?_
    refine S_hang o9 p10 (by omega) r10 (fun M11 p11 o11 => ?_)
    refine v_load rfl rfl ⟨rfl, Nat.le_of_ble_eq_true rfl⟩ ?_
    refine v_load rfl rfl ⟨rfl, Nat.le_of_ble_eq_true rfl⟩ ?_
    refine v_callr rfl ⟨Nat.le_of_ble_eq_true rfl, Nat.le_of_ble_eq_true rfl, rfl, Nat.le_of_ble_eq_true rfl, rfl⟩ ?_
    refine S_shut o11 p11 (fun M12 p12 r12 => ?_)
    refine v_ret rfl rfl ?_
    rw [trs_snoc, trs_snoc, hks] at r12
    rw [List.append_assoc ([lfN 12 a 1 0, lfN 16 (a + 1) 1 40] ++ qs)] at r12
    exact GE_fin (by omega) p12 r12 k
  refine v_in ?_
  refine v_load rfl rfl ⟨rfl, Nat.le_of_ble_eq_true rfl⟩ ?_
  refine v_push rfl ?_
  refine v_push rfl ?_
  refine v_push rfl ?_
  refine v_callr rfl ⟨Nat.le_of_ble_eq_true rfl, Nat.le_of_ble_eq_true rfl, rfl, Nat.le_of_ble_eq_true rfl, rfl⟩ ?_
  refine S_open hP (by omega) (by omega) (fun M1 p1 o1 => ?_)
  refine v_store rfl ⟨rfl, Nat.le_of_ble_eq_true rfl, Nat.le_of_ble_eq_true rfl, rfl⟩ rfl ?_
  refine v_load rfl rfl ⟨rfl, Nat.le_of_ble_eq_true rfl⟩ ?_
  refine v_load rfl rfl ⟨rfl, Nat.le_of_ble_eq_true rfl⟩ ?_
  refine v_load rfl rfl ⟨rfl, Nat.le_of_ble_eq_true rfl⟩ ?_
  refine v_push rfl ?_
  refine v_push rfl ?_
  refine v_push rfl ?_
  refine v_callr rfl ⟨Nat.le_of_ble_eq_true rfl, Nat.le_of_ble_eq_true rfl, rfl, Nat.le_of_ble_eq_true rfl, rfl⟩ ?_
  refine S_leaf p1 (by omega) (Or.inr rfl) (by omega) (fun M2 x2 I2 p2 r2 => ?_)
  refine v_callr rfl ⟨Nat.le_of_ble_eq_true rfl, Nat.le_of_ble_eq_true rfl, rfl, Nat.le_of_ble_eq_true rfl, rfl⟩ ?_
  refine S_hang o1 p2 (by omega) r2 (fun M3 p3 o3 => ?_)
  refine v_load rfl rfl ⟨rfl, Nat.le_of_ble_eq_true rfl⟩ ?_
  refine v_load rfl rfl ⟨rfl, Nat.le_of_ble_eq_true rfl⟩ ?_
  refine v_load rfl rfl ⟨rfl, Nat.le_of_ble_eq_true rfl⟩ ?_
  refine v_push rfl ?_
  refine v_push rfl ?_
  refine v_push rfl ?_
  refine v_callr rfl ⟨Nat.le_of_ble_eq_true rfl, Nat.le_of_ble_eq_true rfl, rfl, Nat.le_of_ble_eq_true rfl, rfl⟩ ?_
  refine S_leaf p3 (by omega) (Or.inr rfl) (by omega) (fun M4 x4 I4 p4 r4 => ?_)
  refine v_callr rfl ⟨Nat.le_of_ble_eq_true rfl, Nat.le_of_ble_eq_true rfl, rfl, Nat.le_of_ble_eq_true rfl, rfl⟩ ?_
  refine S_hang o3 p4 (by omega) r4 (fun M5 p5 o5 => ?_)
  rw [show a + 1 + 1 = a + 2 by omega] at p5
  by_cases hc : sgn T (a + 2) = 41
  · rw [if_pos hc] at e1
    obtain ⟨rfl, rfl⟩ : [] = qs ∧ a + 2 = qb := by simpa using e1
    refine v_load rfl rfl ⟨rfl, Nat.le_of_ble_eq_true rfl⟩ ?_
    refine v_getp rfl rfl rfl ?_
    refine v_load rfl rfl ⟨rfl, Nat.le_of_ble_eq_true rfl⟩ ?_
    refine v_getx rfl rfl (p5.2.1) ?_
    refine v_callr rfl ⟨Nat.le_of_ble_eq_true rfl, Nat.le_of_ble_eq_true rfl, rfl, Nat.le_of_ble_eq_true rfl, rfl⟩ ?_
    refine S_sgn p5 ?_
    refine v_push rfl ?_
    refine v_ieq rfl (fun _ => ?_) (fun h => absurd h (by omega))
    exact rest M5 _ _ [(0, 0), (0, 0), (0, 0)] rfl p5 o5 rfl (by simp; omega) (by omega) (by omega) _ _
  · rw [if_neg hc] at e1
    obtain ⟨e, g1, g2⟩ := ob_some e1
    obtain ⟨τe, q1, q2, q3, q4, q5, q6, q7⟩ := P_ok3 hT g1 (by omega) (by omega)
    obtain ⟨ea, eb⟩ := e
    have q1 : ea = [τe] := q1
    subst q1
    have q3 : a + 2 ≤ eb := q3
    have q4 : eb ≤ (T.length : Int) := q4
    obtain ⟨r, g3, g4⟩ := ob_some g2
    obtain ⟨rs, rb⟩ := r
    have g3 : P T f 8 ne [] eb = some (rs, rb) := g3
    obtain ⟨c1, c2, c3⟩ := P_ok8 hT g3 (by omega) q4
    have c1 : eb ≤ rb := c1
    have c2 : rb ≤ (T.length : Int) := c2
    obtain ⟨rfl, rfl⟩ : [mkN 4 (a + 2) rb 0 ([τe] ++ rs)] = qs ∧ rb = qb := by simpa using g4
    have hlen : ([mkN 4 (a + 2) rb 0 ([τe] ++ rs)] : List (List zN)).flatten.length = τe.length + rs.flatten.length + 1 := by
      simp only [List.flatten_cons, List.flatten_nil, List.append_nil, mkN_len, List.cons_append, List.nil_append, List.length_append]
    rw [hlen] at hh k
    refine v_load rfl rfl ⟨rfl, Nat.le_of_ble_eq_true rfl⟩ ?_
    refine v_getp rfl rfl rfl ?_
    refine v_load rfl rfl ⟨rfl, Nat.le_of_ble_eq_true rfl⟩ ?_
    refine v_getx rfl rfl (p5.2.1) ?_
    refine v_callr rfl ⟨Nat.le_of_ble_eq_true rfl, Nat.le_of_ble_eq_true rfl, rfl, Nat.le_of_ble_eq_true rfl, rfl⟩ ?_
    refine S_sgn p5 ?_
    refine v_push rfl ?_
    refine v_ieq rfl (fun h => absurd h (by omega)) (fun _ => ?_)
    refine v_load rfl rfl ⟨rfl, Nat.le_of_ble_eq_true rfl⟩ ?_
    refine v_push rfl ?_
    refine v_push rfl ?_
    refine v_push rfl ?_
    refine v_callr rfl ⟨Nat.le_of_ble_eq_true rfl, Nat.le_of_ble_eq_true rfl, rfl, Nat.le_of_ble_eq_true rfl, rfl⟩ ?_
    refine S_open p5 (by omega) (by omega) (fun M6 p6 o6 => ?_)
    refine v_store rfl ⟨rfl, Nat.le_of_ble_eq_true rfl, Nat.le_of_ble_eq_true rfl, rfl⟩ rfl ?_
    refine v_load rfl rfl ⟨rfl, Nat.le_of_ble_eq_true rfl⟩ ?_
    refine v_load rfl rfl ⟨rfl, Nat.le_of_ble_eq_true rfl⟩ ?_
    refine v_load rfl rfl ⟨rfl, Nat.le_of_ble_eq_true rfl⟩ ?_
    refine v_load rfl rfl ⟨rfl, Nat.le_of_ble_eq_true rfl⟩ ?_
    refine v_callr rfl ⟨Nat.le_of_ble_eq_true rfl, Nat.le_of_ble_eq_true rfl, rfl, Nat.le_of_ble_eq_true rfl, rfl⟩ ?_
    refine hE ne (a + 2) _ M6 (d + 1) _ τe eb g1 p6 (by omega) (by omega) (by omega) hn0 hn1 (by omega) (fun M7 x7 I7 p7 r7 => ?_)
    refine v_callr rfl ⟨Nat.le_of_ble_eq_true rfl, Nat.le_of_ble_eq_true rfl, rfl, Nat.le_of_ble_eq_true rfl, rfl⟩ ?_
    refine S_hang o6 p7 (by omega) r7 (fun M8 p8 o8 => ?_)
    refine v_push rfl ?_
    refine v_store rfl ⟨rfl, Nat.le_of_ble_eq_true rfl, Nat.le_of_ble_eq_true rfl, rfl⟩ rfl ?_
    refine hL ne eb _ _ _ _ _ 0 _ M8 (d + 2) Q _ rs rb g3 p8 o8 (by omega) (by omega) q4 (by omega) hn0 hn1 (by omega) ?_
    intro M9 ks' turn' k1 k2 k3
    refine v_load rfl rfl ⟨rfl, Nat.le_of_ble_eq_true rfl⟩ ?_
    refine v_load rfl rfl ⟨rfl, Nat.le_of_ble_eq_true rfl⟩ ?_
    refine v_load rfl rfl ⟨rfl, Nat.le_of_ble_eq_true rfl⟩ ?_
    refine v_load rfl rfl ⟨rfl, Nat.le_of_ble_eq_true rfl⟩ ?_
    refine v_callr rfl ⟨Nat.le_of_ble_eq_true rfl, Nat.le_of_ble_eq_true rfl, rfl, Nat.le_of_ble_eq_true rfl, rfl⟩ ?_
    refine S_shut k2 k1 (fun M10 p10 r10 => ?_)
    refine v_callr rfl ⟨Nat.le_of_ble_eq_true rfl, Nat.le_of_ble_eq_true rfl, rfl, Nat.le_of_ble_eq_true rfl, rfl⟩ ?_
    refine S_hang o5 p10 (by omega) r10 (fun M11 p11 o11 => ?_)
    refine rest M11 _ _ [(0, 0), (0, 0), (0, 0)] rfl p11 o11 ?_ ?_ (by omega) (by omega) _ _
    · rw [trs_snoc, k3]; rfl
    · rw [hlen]; omega
end GR2
