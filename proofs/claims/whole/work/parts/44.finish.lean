/-! FINISH of the class's tree, and its parse: methods 111, 37 -/
def bmp (A : List zQ) (p : Nat) (s k : Int) : List zQ := A.set p ((A.getD p n0).1, (A.getD p n0).2.1, (A.getD p n0).2.2.1 + k, (A.getD p n0).2.2.2.1 + s, (A.getD p n0).2.2.2.2)
theorem bmp_len {A : List zQ} {p : Nat} {s k : Int} : (bmp A p s k).length = A.length := List.length_set
theorem qd_app1 {A B : List zQ} {p : Nat} (h : p < A.length) : (A ++ B).getD p n0 = A.getD p n0 := by
  rw [List.getD_eq_getElem?_getD, List.getD_eq_getElem?_getD, List.getElem?_append_left h]
theorem qd_app2 {A B : List zQ} {p : Nat} (h : A.length ≤ p) : (A ++ B).getD p n0 = B.getD (p - A.length) n0 := by
  rw [List.getD_eq_getElem?_getD, List.getD_eq_getElem?_getD, List.getElem?_append_right h]
theorem bmp_app {A B : List zQ} {p : Nat} {s k : Int} (h : p < A.length) : bmp (A ++ B) p s k = bmp A p s k ++ B := by
  unfold bmp
  rw [qd_app1 h, List.set_append_left _ _ h]
theorem bmp_last {A : List zQ} {q : zQ} {s k : Int} : bmp (A ++ [q]) A.length s k = A ++ [(q.1, q.2.1, q.2.2.1 + k, q.2.2.2.1 + s, q.2.2.2.2)] := by
  unfold bmp
  rw [qd_app2 (Nat.le_refl _), List.set_append_right _ _ (Nat.le_refl _), Nat.sub_self]
  rfl
theorem bmp_at {A : List zQ} {p i : Nat} {s k : Int} (h : p < A.length) : (bmp A p s k).getD i n0 = if i = p then ((A.getD p n0).1, (A.getD p n0).2.1, (A.getD p n0).2.2.1 + k, (A.getD p n0).2.2.2.1 + s, (A.getD p n0).2.2.2.2) else A.getD i n0 := by
  unfold bmp
  by_cases e : i = p
  · subst e
    rw [if_pos rfl, List.getD_eq_getElem?_getD, List.getElem?_set_self h]
    rfl
  · rw [if_neg e, List.getD_eq_getElem?_getD, List.getElem?_set_ne (fun z => e z.symm), ← List.getD_eq_getElem?_getD]
theorem bmp_bmp {A : List zQ} {p : Nat} {s k s' k' : Int} (h : p < A.length) : bmp (bmp A p s k) p s' k' = bmp A p (s + s') (k + k') := by
  have e := bmp_at (A := A) (p := p) (i := p) (s := s) (k := k) h
  rw [if_pos rfl] at e
  show (bmp A p s k).set p (((bmp A p s k).getD p n0).1, ((bmp A p s k).getD p n0).2.1, ((bmp A p s k).getD p n0).2.2.1 + k', ((bmp A p s k).getD p n0).2.2.2.1 + s', ((bmp A p s k).getD p n0).2.2.2.2) = _
  rw [e]
  unfold bmp
  rw [List.set_set]
  simp only [Int.add_assoc]
theorem bmp_zero {A : List zQ} {p : Nat} (h : p < A.length) : bmp A p 0 0 = A := by
  unfold bmp
  simp only [Int.add_zero]
  have e : A.getD p n0 = A[p] := by rw [List.getD_eq_getElem?_getD, List.getElem?_eq_getElem h]; rfl
  rw [e]
  exact List.set_getElem_self h
theorem RN_bmp {N : List zQ} {M : zM} {p : Nat} {s k : Int} (hR : RN N M) (h : p < N.length) : RN (bmp N p s k) (z_upd (z_upd M 46 (p : Int) (M 46 (p : Int) + s)) 45 (p : Int) (M 45 (p : Int) + k)) := by
  refine ⟨by simp (disch := decide) only [u_n1, bmp_len]; exact hR.1, by rw [bmp_len]; exact hR.2.1, fun i hi => ?_⟩
  rw [bmp_len] at hi
  rw [bmp_at h]
  have hi2 := hR.2.2 i hi
  by_cases e : i = p
  · subst e
    rw [if_pos rfl]
    simp (disch := decide) only [u_n1, u_eq]
    obtain ⟨a1, a2, a3, a4, a5, a6, a7, a8⟩ := hi2
    exact ⟨a1, a2, by rw [a3], by rw [a4], a5, a6, a7, a8⟩
  · rw [if_neg e]
    have e2 : ((i : Nat) : Int) ≠ (p : Int) := by omega
    simp (disch := first | decide | assumption) only [u_n1, u_n2]
    exact hi2
theorem wf_len {ts : List (List zN)} (h : wfF ts) : ts.length ≤ ts.flatten.length := by
  refine wf_ind (C := fun ts => ts.length ≤ ts.flatten.length) h (Nat.le_refl _) ?_
  intro so fr up sg cs ts _ _ _ i
  rw [List.flatten_cons, List.length_append, mkN_len, List.length_cons]
  omega
theorem nd_nat {N : List zQ} {i : Nat} (h : i < N.length) : nd N (i : Int) = N.getD i n0 := by
  rw [nd_in ⟨by omega, by omega⟩, Int.toNat_natCast]
theorem RN_51 {N : List zQ} {M : zM} {x v : Int} (h : RN N M) : RN N (z_upd M 51 x v) := by
  refine ⟨by rw [u_n1 (by decide)]; exact h.1, h.2.1, fun i hi => ?_⟩
  simp (disch := decide) only [u_n1]
  exact h.2.2 i hi
section FI
variable {L d : Nat} {Q : Option zV → zM → Prop}
theorem fin_fo {ts : List (List zN)} (hw : wfF ts) : ∀ (M : zM) (A B : List zQ) (p : Nat) (dp : Int) (w : zV), p < A.length → RN (A ++ (lay (p : Int) dp (A.length : Int) ts.flatten).map q0 ++ B) M → 0 ≤ (A.getD p n0).2.2.1 → (A.getD p n0).2.2.1 + (ts.flatten.length : Int) ≤ 5000 → 0 ≤ (A.getD p n0).2.2.2.1 → (A.getD p n0).2.2.2.1 + (ts.flatten.length : Int) ≤ 5000 →
    (∀ M' w', RN (bmp A p (ts.flatten.length : Int) (ts.length : Int) ++ lay (p : Int) dp (A.length : Int) ts.flatten ++ B) M' → z_oR 42 50 M M' → v_wp L (d + 3) 111 7 [(2, 42), (0, (A.length : Int) - 1), w'] [] M' Q) →
    v_wp L (d + 3) 111 7 [(2, 42), (0, ((A.length + ts.flatten.length : Nat) : Int) - 1), w] [] M Q := by
  refine wf_ind (C := fun ts => ∀ (M : zM) (A B : List zQ) (p : Nat) (dp : Int) (w : zV), p < A.length → RN (A ++ (lay (p : Int) dp (A.length : Int) ts.flatten).map q0 ++ B) M → 0 ≤ (A.getD p n0).2.2.1 → (A.getD p n0).2.2.1 + (ts.flatten.length : Int) ≤ 5000 → 0 ≤ (A.getD p n0).2.2.2.1 → (A.getD p n0).2.2.2.1 + (ts.flatten.length : Int) ≤ 5000 →
    (∀ M' w', RN (bmp A p (ts.flatten.length : Int) (ts.length : Int) ++ lay (p : Int) dp (A.length : Int) ts.flatten ++ B) M' → z_oR 42 50 M M' → v_wp L (d + 3) 111 7 [(2, 42), (0, (A.length : Int) - 1), w'] [] M' Q) →
    v_wp L (d + 3) 111 7 [(2, 42), (0, ((A.length + ts.flatten.length : Nat) : Int) - 1), w] [] M Q) hw ?_ ?_
  · intro M A B p dp w hp hR _ _ _ _ k
    have := k M w (by
      show RN (bmp A p 0 0 ++ _ ++ B) M
      rw [bmp_zero hp]
      rw [show ([] : List (List zN)).flatten = [] from rfl, lay_nil] at hR ⊢
      exact hR) z_oR_rf
    exact this
  · intro so fr up sg cs ts hwc hwt i1 i2 M A B p dp w hp hR b1 b2 b3 b4 k
    have ela := lay_cons (p : Int) dp (A.length : Int) so fr up sg cs ts
    have lc := lay_len hwc (A.length : Int) (dp + 1) ((A.length : Int) + 1)
    have hfl : ((mkN so fr up sg cs :: ts).flatten).length = cs.flatten.length + ts.flatten.length + 1 := by rw [List.flatten_cons, List.length_append, mkN_len]; omega
    have hwl := wf_len hwt
    have hwlc := wf_len hwc
    rw [hfl] at b2 b4
    rw [hfl, ela] at k
    rw [ela, List.map_cons, List.map_append] at hR
    generalize hx : ((so, (p : Int), (cs.length : Int), (cs.flatten.length : Int) + 1, dp, fr, up - fr, sg) : zQ) = x at hR k
    generalize hC : lay (A.length : Int) (dp + 1) ((A.length : Int) + 1) cs.flatten = C at hR k lc
    have l2 : (A ++ [q0 x] ++ C.map q0).length = A.length + cs.flatten.length + 1 := by
      rw [List.length_append, List.length_append, List.length_map, lc]; simp; omega
    have g2 : (A ++ [q0 x] ++ C.map q0).getD p n0 = A.getD p n0 := by rw [List.append_assoc, qd_app1 hp]
    have i2' := i2 M (A ++ [q0 x] ++ C.map q0) B p dp w (by rw [l2]; omega) (by
      rw [l2, show ((A.length + cs.flatten.length + 1 : Nat) : Int) = (A.length : Int) + 1 + (cs.flatten.length : Int) by omega]
      simpa using hR) (by rw [g2]; exact b1) (by rw [g2]; omega) (by rw [g2]; exact b3) (by rw [g2]; omega)
    rw [l2] at i2'
    rw [hfl, show A.length + (cs.flatten.length + ts.flatten.length + 1) = A.length + cs.flatten.length + 1 + ts.flatten.length by omega]
    refine i2' ?_
    intro M1 w1 hR1 ho1
    rw [List.append_assoc A, bmp_app hp, show ((A.length + cs.flatten.length + 1 : Nat) : Int) = (A.length : Int) + 1 + (cs.flatten.length : Int) by omega] at hR1
    generalize hD : lay (p : Int) dp ((A.length : Int) + 1 + (cs.flatten.length : Int)) ts.flatten = D at hR1 k
    have l3 : (bmp A p (ts.flatten.length : Int) (ts.length : Int) ++ [q0 x]).length = A.length + 1 := by rw [List.length_append, bmp_len]; rfl
    have g3 : (bmp A p (ts.flatten.length : Int) (ts.length : Int) ++ [q0 x]).getD A.length n0 = q0 x := by
      rw [qd_app2 (by rw [bmp_len]; exact Nat.le_refl _), bmp_len, Nat.sub_self]; rfl
    have e3 : (q0 x).2.2.1 = 0 ∧ (q0 x).2.2.2.1 = 1 := ⟨rfl, rfl⟩
    have i1' := i1 M1 (bmp A p (ts.flatten.length : Int) (ts.length : Int) ++ [q0 x]) (D ++ B) A.length (dp + 1) w1 (by rw [l3]; omega) (by
      rw [l3, show ((A.length + 1 : Nat) : Int) = (A.length : Int) + 1 by omega, hC]
      simpa using hR1) (by rw [g3, e3.1]; decide) (by rw [g3, e3.1]; omega) (by rw [g3, e3.2]; decide) (by rw [g3, e3.2]; omega)
    rw [l3] at i1'
    rw [show ((A.length + cs.flatten.length + 1 : Nat) : Int) = ((A.length + 1 + cs.flatten.length : Nat) : Int) by omega]
    refine i1' ?_
    intro M2 w2 hR2 ho2
    have e4 : bmp (bmp A p (ts.flatten.length : Int) (ts.length : Int) ++ [q0 x]) A.length (cs.flatten.length : Int) (cs.length : Int) = bmp A p (ts.flatten.length : Int) (ts.length : Int) ++ [x] := by
      have := bmp_last (A := bmp A p (ts.flatten.length : Int) (ts.length : Int)) (q := q0 x) (s := (cs.flatten.length : Int)) (k := (cs.length : Int))
      rw [bmp_len] at this
      rw [this, ← hx]
      show _ ++ [(so, (p : Int), 0 + (cs.length : Int), 1 + (cs.flatten.length : Int), dp, fr, up - fr, sg)] = _
      rw [Int.zero_add, Int.add_comm]
    rw [e4, show ((A.length + 1 : Nat) : Int) = (A.length : Int) + 1 by omega, hC] at hR2
    generalize hE : bmp A p (ts.flatten.length : Int) (ts.length : Int) = E at hR2
    have lE : E.length = A.length := by rw [← hE, bmp_len]
    generalize hN : E ++ [x] ++ C ++ (D ++ B) = N at hR2
    have lN : A.length < N.length := by rw [← hN]; simp [lE]
    have nx : nd N (A.length : Int) = x := by
      rw [nd_nat lN, ← hN, List.append_assoc, List.append_assoc, qd_app2 (by omega), lE, Nat.sub_self]; rfl
    have hn := hR2.2.1
    have hpE : p < E.length := by omega
    have np : N.getD p n0 = E.getD p n0 := by rw [← hN, List.append_assoc, List.append_assoc, qd_app1 hpE]
    have gE := bmp_at (A := A) (p := p) (i := p) (s := (ts.flatten.length : Int)) (k := (ts.length : Int)) hp
    rw [if_pos rfl, hE] at gE
    have m45 : M2 45 (p : Int) = (A.getD p n0).2.2.1 + (ts.length : Int) := by rw [(hR2.2.2 p (by omega)).2.2.1, np, gE]
    have m46 : M2 46 (p : Int) = (A.getD p n0).2.2.2.1 + (ts.flatten.length : Int) := by rw [(hR2.2.2 p (by omega)).2.2.2.1, np, gE]
    rw [show ((A.length + 1 : Nat) : Int) - 1 = (A.length : Int) by omega]
    have eu : (nd N (A.length : Int)).2.1 = (p : Int) := by rw [nx, ← hx]
    have es : (nd N (A.length : Int)).2.2.2.1 = (cs.flatten.length : Int) + 1 := by rw [nx, ← hx]
    refine v_load rfl rfl ⟨rfl, Nat.le_of_ble_eq_true rfl⟩ ?_
    refine v_ifle rfl (fun h => absurd h (by omega)) (fun _ => ?_)
    refine v_load rfl rfl ⟨rfl, Nat.le_of_ble_eq_true rfl⟩ ?_
    refine v_load rfl rfl ⟨rfl, Nat.le_of_ble_eq_true rfl⟩ ?_
    refine v_callr rfl ⟨Nat.le_of_ble_eq_true rfl, Nat.le_of_ble_eq_true rfl, rfl, Nat.le_of_ble_eq_true rfl, rfl⟩ ?_
    refine S_ndUp hR2 ?_
    rw [eu]
    refine v_store rfl ⟨rfl, Nat.le_of_ble_eq_true rfl, Nat.le_of_ble_eq_true rfl, rfl⟩ rfl ?_
    refine v_load rfl rfl ⟨rfl, Nat.le_of_ble_eq_true rfl⟩ ?_
    refine v_load rfl rfl ⟨rfl, Nat.le_of_ble_eq_true rfl⟩ ?_
    refine v_callr rfl ⟨Nat.le_of_ble_eq_true rfl, Nat.le_of_ble_eq_true rfl, rfl, Nat.le_of_ble_eq_true rfl, rfl⟩ ?_
    refine S_ndHas hR2 ?_
    rw [if_pos (by omega)]
    refine v_ifeq rfl (fun h => absurd h (by omega)) (fun _ => ?_)
    refine v_load rfl rfl ⟨rfl, Nat.le_of_ble_eq_true rfl⟩ ?_
    refine v_getp rfl rfl rfl ?_
    refine v_load rfl rfl ⟨rfl, Nat.le_of_ble_eq_true rfl⟩ ?_
    refine v_dup2 rfl ⟨Or.inl rfl, Or.inr rfl⟩ ?_
    refine v_ald9 rfl rfl ⟨by omega, by show _ < (1216 : Int); omega⟩ ?_
    refine v_load rfl rfl ⟨rfl, Nat.le_of_ble_eq_true rfl⟩ ?_
    refine v_load rfl rfl ⟨rfl, Nat.le_of_ble_eq_true rfl⟩ ?_
    refine v_callr rfl ⟨Nat.le_of_ble_eq_true rfl, Nat.le_of_ble_eq_true rfl, rfl, Nat.le_of_ble_eq_true rfl, rfl⟩ ?_
    refine S_ndSiz hR2 ?_
    rw [es, m46]
    have m45' : ∀ v, z_upd M2 46 (p : Int) v 45 (p : Int) = (A.getD p n0).2.2.1 + (ts.length : Int) := fun v => by rw [u_n1 (by decide)]; exact m45
    refine v_add rfl (by omega) ?_
    refine v_ast9 rfl rfl (by decide) ⟨by omega, by show _ < (1216 : Int); omega⟩ ?_
    refine v_load rfl rfl ⟨rfl, Nat.le_of_ble_eq_true rfl⟩ ?_
    refine v_getp rfl rfl rfl ?_
    refine v_load rfl rfl ⟨rfl, Nat.le_of_ble_eq_true rfl⟩ ?_
    refine v_dup2 rfl ⟨Or.inl rfl, Or.inr rfl⟩ ?_
    refine v_ald9 rfl rfl ⟨by omega, by show _ < (1216 : Int); omega⟩ ?_
    rw [m45']
    refine v_push rfl ?_
    refine v_add rfl (by omega) ?_
    refine v_ast9 rfl rfl (by decide) ⟨by omega, by show _ < (1216 : Int); omega⟩ ?_
    refine v_iinc rfl rfl rfl (by omega) rfl ?_
    refine v_goto rfl ?_
    have hR3 := RN_bmp (s := (cs.flatten.length : Int) + 1) (k := 1) hR2 (p := p) (by omega)
    rw [m45, m46] at hR3
    refine k _ _ ?_ ?_
    · rw [← hN, List.append_assoc, List.append_assoc, bmp_app hpE, ← hE, bmp_bmp hp] at hR3
      rw [show (ts.flatten.length : Int) + ((cs.flatten.length : Int) + 1) = ((cs.flatten.length + ts.flatten.length + 1 : Nat) : Int) by omega, show (ts.length : Int) + 1 = (((mkN so fr up sg cs :: ts).length : Nat) : Int) by simp] at hR3
      simpa using hR3
    · intro b j hb
      rw [u_n1 (by omega), u_n1 (by omega), ho2 b j hb, ho1 b j hb]
/-- the last leaf of a token among the first nodes -/
def lfF (N : List zQ) : Nat → Int → Int → Int
  | 0, v, _ => v
  | n + 1, v, j => if (N.getD n n0).2.2.1 = 0 ∧ (N.getD n n0).2.2.2.2.2.2.1 = 1 ∧ (N.getD n n0).2.2.2.2.2.1 = j then (n : Int) else lfF N n v j
theorem fin_leaf {N : List zQ} (M0 : zM) (k : ∀ M', RN N M' → z_oR 51 51 M0 M' → (∀ j, 0 ≤ j → j < 300 → M' 51 j = lfF N N.length (M0 51 j) j) → Q none M') : ∀ (n i : Nat) (M : zM) (w : zV), n = N.length - i → i ≤ N.length → RN N M → z_oR 51 51 M0 M → (∀ j, 0 ≤ j → j < 300 → M 51 j = lfF N i (M0 51 j) j) → v_wp L (d + 3) 111 57 [(2, 42), (0, (i : Int)), w] [] M Q := by
  intro n
  induction n with
  | zero =>
    intro i M w hn hi hR ho hl
    have ei : i = N.length := by omega
    subst ei
    refine v_load rfl rfl ⟨rfl, Nat.le_of_ble_eq_true rfl⟩ ?_
    refine v_load rfl rfl ⟨rfl, Nat.le_of_ble_eq_true rfl⟩ ?_
    refine v_getx rfl rfl (hR.1) ?_
    refine v_ige rfl (fun _ => ?_) (fun h => absurd h (by omega))
    refine v_ret rfl rfl ?_
    exact k M hR ho hl
  | succ n ih =>
    intro i M w hn hi hR ho hl
    have hil : i < N.length := by omega
    have nn := nd_nat hil
    have hb := hR.2.1
    have same : ¬ ((N.getD i n0).2.2.1 = 0 ∧ (N.getD i n0).2.2.2.2.2.2.1 = 1 ∧ 0 ≤ (N.getD i n0).2.2.2.2.2.1 ∧ (N.getD i n0).2.2.2.2.2.1 < 300) → ∀ w, v_wp L (d + 3) 111 106 [(2, 42), (0, (i : Int)), w] [] M Q := by
      intro hc w
      refine v_iinc rfl rfl rfl (by omega) rfl ?_
      refine v_goto rfl ?_
      refine ih (i + 1) M _ (by omega) (by omega) hR ho (fun j h1 h2 => ?_)
      rw [hl j h1 h2]
      show _ = if _ then _ else _
      rw [if_neg (fun z => hc ⟨z.1, z.2.1, by omega, by omega⟩)]
    have upd : (N.getD i n0).2.2.1 = 0 → (N.getD i n0).2.2.2.2.2.2.1 = 1 → (0 ≤ (N.getD i n0).2.2.2.2.2.1 ∧ (N.getD i n0).2.2.2.2.2.1 < 300) → ∀ w, v_wp L (d + 3) 111 106 [(2, 42), (0, (i : Int)), w] [] (z_upd M 51 (N.getD i n0).2.2.2.2.2.1 (i : Int)) Q := by
      intro c1 c2 c3 w
      refine v_iinc rfl rfl rfl (by omega) rfl ?_
      refine v_goto rfl ?_
      refine ih (i + 1) _ _ (by omega) (by omega) (RN_51 hR) (fun b j hb => by rw [u_n1 (by omega)]; exact ho b j hb) (fun j h1 h2 => ?_)
      show _ = if _ then _ else _
      by_cases e : (N.getD i n0).2.2.2.2.2.1 = j
      · rw [if_pos ⟨c1, c2, e⟩, e, u_eq]
      · rw [if_neg (fun z => e z.2.2), u_n2 (fun z => e z.symm)]
        exact hl j h1 h2
    refine v_load rfl rfl ⟨rfl, Nat.le_of_ble_eq_true rfl⟩ ?_
    refine v_load rfl rfl ⟨rfl, Nat.le_of_ble_eq_true rfl⟩ ?_
    refine v_getx rfl rfl (hR.1) ?_
    refine v_ige rfl (fun h => absurd h (by omega)) (fun _ => ?_)
    refine v_load rfl rfl ⟨rfl, Nat.le_of_ble_eq_true rfl⟩ ?_
    refine v_load rfl rfl ⟨rfl, Nat.le_of_ble_eq_true rfl⟩ ?_
    refine v_callr rfl ⟨Nat.le_of_ble_eq_true rfl, Nat.le_of_ble_eq_true rfl, rfl, Nat.le_of_ble_eq_true rfl, rfl⟩ ?_
    refine S_ndFrom hR ?_
    rw [nn]
    refine v_store rfl ⟨rfl, Nat.le_of_ble_eq_true rfl, Nat.le_of_ble_eq_true rfl, rfl⟩ rfl ?_
    refine v_load rfl rfl ⟨rfl, Nat.le_of_ble_eq_true rfl⟩ ?_
    refine v_load rfl rfl ⟨rfl, Nat.le_of_ble_eq_true rfl⟩ ?_
    refine v_callr rfl ⟨Nat.le_of_ble_eq_true rfl, Nat.le_of_ble_eq_true rfl, rfl, Nat.le_of_ble_eq_true rfl, rfl⟩ ?_
    refine S_ndKids hR ?_
    rw [nn]
    refine v_ifne rfl (fun c1 => ?_) (fun c1 => ?_)
    · exact same (fun z => c1 z.1) _
    · refine v_load rfl rfl ⟨rfl, Nat.le_of_ble_eq_true rfl⟩ ?_
      refine v_load rfl rfl ⟨rfl, Nat.le_of_ble_eq_true rfl⟩ ?_
      refine v_callr rfl ⟨Nat.le_of_ble_eq_true rfl, Nat.le_of_ble_eq_true rfl, rfl, Nat.le_of_ble_eq_true rfl, rfl⟩ ?_
      refine S_ndTaken hR ?_
      rw [nn]
      refine v_push rfl ?_
      refine v_ine rfl (fun c2 => ?_) (fun c2 => ?_)
      · exact same (fun z => c2 z.2.1) _
      · refine v_load rfl rfl ⟨rfl, Nat.le_of_ble_eq_true rfl⟩ ?_
        refine v_iflt rfl (fun c3 => ?_) (fun c3 => ?_)
        · exact same (fun z => by omega) _
        · refine v_load rfl rfl ⟨rfl, Nat.le_of_ble_eq_true rfl⟩ ?_
          refine v_push rfl ?_
          refine v_ige rfl (fun c4 => ?_) (fun c4 => ?_)
          · exact same (fun z => by omega) _
          · refine v_load rfl rfl ⟨rfl, Nat.le_of_ble_eq_true rfl⟩ ?_
            refine v_getp rfl rfl rfl ?_
            refine v_load rfl rfl ⟨rfl, Nat.le_of_ble_eq_true rfl⟩ ?_
            refine v_load rfl rfl ⟨rfl, Nat.le_of_ble_eq_true rfl⟩ ?_
            refine v_ast9 rfl rfl (by decide) ⟨by omega, by show _ < (300 : Int); omega⟩ ?_
            exact upd c1 c2 ⟨c3, c4⟩ _
end FI
