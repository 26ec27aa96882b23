/-! THE REFERENCE'S COUNTS: children, sizes, tokens of nodes -/
def p0 (q : zQ) : zQ := (q.1, q.2.1, 0, 1, q.2.2.2.2.1, tkF q, tkM q, sgF q)
def p1 (q : zQ) : zQ := (q.1, q.2.1, q.2.2.1, q.2.2.2.1, q.2.2.2.2.1, (if 0 < q.2.2.2.2.2.2.1 then q.2.2.2.2.2.1 else -1), q.2.2.2.2.2.2.1, sgF q)
def RM (N : List zQ) (M : zM) : Prop := M 77 44 = (N.length : Int) ∧ N.length ≤ 1216 ∧ ∀ i : Nat, i < N.length → M 100 (i : Int) = (N.getD i n0).1 ∧ M 101 (i : Int) = (N.getD i n0).2.1 ∧ M 103 (i : Int) = (N.getD i n0).2.2.1 ∧ M 107 (i : Int) = (N.getD i n0).2.2.2.1 ∧ M 102 (i : Int) = (N.getD i n0).2.2.2.2.1 ∧ M 105 (i : Int) = (N.getD i n0).2.2.2.2.2.1 ∧ M 106 (i : Int) = (N.getD i n0).2.2.2.2.2.2.1 ∧ M 108 (i : Int) = (N.getD i n0).2.2.2.2.2.2.2
def bmx (q : zQ) (s k tn fr : Int) : zQ := (q.1, q.2.1, q.2.2.1 + k, q.2.2.2.1 + s, q.2.2.2.2.1, (if 0 < tn then fr else q.2.2.2.2.2.1), q.2.2.2.2.2.2.1 + tn, q.2.2.2.2.2.2.2)
def bmq (A : List zQ) (p : Nat) (s k tn fr : Int) : List zQ := A.set p (bmx (A.getD p n0) s k tn fr)
theorem bmq_len {A : List zQ} {p : Nat} {s k tn fr : Int} : (bmq A p s k tn fr).length = A.length := by simp [bmq]
theorem bmq_app {A B : List zQ} {p : Nat} {s k tn fr : Int} (h : p < A.length) : bmq (A ++ B) p s k tn fr = bmq A p s k tn fr ++ B := by
  unfold bmq
  rw [qd_app1 h, List.set_append_left _ _ h]
theorem bmq_at {A : List zQ} {p i : Nat} {s k tn fr : Int} (h : p < A.length) : (bmq A p s k tn fr).getD i n0 = if i = p then bmx (A.getD p n0) s k tn fr else A.getD i n0 := by
  unfold bmq
  rw [List.getD_eq_getElem?_getD, List.getElem?_set]
  by_cases e : p = i
  · subst e; rw [if_pos rfl, if_pos h, if_pos rfl]; rfl
  · rw [if_neg e, if_neg (fun z => e z.symm), ← List.getD_eq_getElem?_getD]
theorem bmx_bmx {q : zQ} {s k tn fr s' k' tn' fr' : Int} (h0 : 0 ≤ tn) (h1 : 0 ≤ tn') (hf : tn' = 0 → fr = fr') : bmx (bmx q s k tn fr) s' k' tn' fr' = bmx q (s + s') (k + k') (tn + tn') fr' := by
  unfold bmx
  simp only [Prod.mk.injEq, true_and, and_true]
  refine ⟨by omega, by omega, ?_, by omega⟩
  by_cases e : 0 < tn'
  · rw [if_pos e, if_pos (by omega)]
  · rw [if_neg e]
    have := hf (by omega)
    subst this
    by_cases e2 : 0 < tn
    · rw [if_pos e2, if_pos (by omega)]
    · rw [if_neg e2, if_neg (by omega)]
theorem bmq_bmq {A : List zQ} {p : Nat} {s k tn fr s' k' tn' fr' : Int} (h : p < A.length) (h0 : 0 ≤ tn) (h1 : 0 ≤ tn') (hf : tn' = 0 → fr = fr') : bmq (bmq A p s k tn fr) p s' k' tn' fr' = bmq A p (s + s') (k + k') (tn + tn') fr' := by
  have := bmq_at (A := A) (p := p) (i := p) (s := s) (k := k) (tn := tn) (fr := fr) h
  rw [if_pos rfl] at this
  show (bmq A p s k tn fr).set p (bmx ((bmq A p s k tn fr).getD p n0) s' k' tn' fr') = _
  rw [this, bmx_bmx h0 h1 hf]
  unfold bmq
  rw [List.set_set]
theorem bmq_zero {A : List zQ} {p : Nat} {fr : Int} (h : p < A.length) : bmq A p 0 0 0 fr = A := by
  unfold bmq bmx
  simp only [Int.add_zero, show ¬ (0 : Int) < 0 by decide, if_false]
  rw [List.getD_eq_getElem?_getD, List.getElem?_eq_getElem h]
  show A.set p A[p] = A
  simp
theorem bmq_last {A : List zQ} {q : zQ} {s k tn fr : Int} : bmq (A ++ [q]) A.length s k tn fr = A ++ [bmx q s k tn fr] := by
  unfold bmq
  rw [show (A ++ [q]).getD A.length n0 = q by rw [qd_app2 (Nat.le_refl _), Nat.sub_self]; rfl, List.set_append_right _ _ (Nat.le_refl _), Nat.sub_self]
  rfl
/-- counts alone have changed -/
def oA (M M' : zM) : Prop := ∀ b j, b ≠ 103 → b ≠ 105 → b ≠ 106 → b ≠ 107 → M' b j = M b j
theorem oA_rf {M : zM} : oA M M := fun _ _ _ _ _ _ => rfl
theorem oA_tr {M M1 M2 : zM} (h : oA M M1) (h2 : oA M1 M2) : oA M M2 := fun b j a1 a2 a3 a4 => (h2 b j a1 a2 a3 a4).trans (h b j a1 a2 a3 a4)
section RNW
variable {L d : Nat} {Q : Option zV → zM → Prop} {T : List zT}
/-- a node is counted at its parent -/
theorem acc_one {A R : List zQ} {x : zQ} {p : Nat} {M : zM} {w : zV} (hp : p < A.length) (hR : RM (A ++ x :: R) M) (hx : x.2.1 = (p : Int)) (b1 : 0 ≤ (A.getD p n0).2.2.1 ∧ (A.getD p n0).2.2.1 ≤ 5000) (b2 : 0 ≤ (A.getD p n0).2.2.2.1 ∧ (A.getD p n0).2.2.2.1 ≤ 5000) (b3 : 0 ≤ (A.getD p n0).2.2.2.2.2.2.1 ∧ (A.getD p n0).2.2.2.2.2.2.1 ≤ 5000) (b4 : 0 ≤ x.2.2.2.1 ∧ x.2.2.2.1 ≤ 5000) (b5 : 0 ≤ x.2.2.2.2.2.2.1 ∧ x.2.2.2.2.2.2.1 ≤ 5000)
    (k : ∀ M' w', RM (bmq A p x.2.2.2.1 1 x.2.2.2.2.2.2.1 x.2.2.2.2.2.1 ++ x :: R) M' → oA M M' → v_wp L d 218 81 [(2, 77), (0, (A.length : Int) - 1), w'] [] M' Q) : v_wp L d 218 81 [(2, 77), (0, (A.length : Int)), w] [] M Q := by
  obtain ⟨h1, h2, h3⟩ := hR
  have hl : (A ++ x :: R).length = A.length + R.length + 1 := by simp; omega
  have gx := h3 A.length (by omega)
  rw [show (A ++ x :: R).getD A.length n0 = x by rw [qd_app2 (Nat.le_refl _), Nat.sub_self]; rfl] at gx
  have gp := h3 p (by omega)
  rw [qd_app1 hp] at gp
  have m101 : M 101 (A.length : Int) = (p : Int) := gx.2.1.trans hx
  have hne : (A.length : Int) ≠ (p : Int) := by omega
  have fin : ∀ M', (∀ b j, 100 ≤ b → b ≤ 108 → b ≠ 104 → j ≠ (p : Int) → M' b j = M b j) → (∀ b j, b = 77 ∨ b = 100 ∨ b = 101 ∨ b = 102 ∨ b = 108 → M' b j = M b j) → M' 103 (p : Int) = M 103 (p : Int) + 1 → M' 107 (p : Int) = M 107 (p : Int) + x.2.2.2.1 → M' 106 (p : Int) = M 106 (p : Int) + x.2.2.2.2.2.2.1 → M' 105 (p : Int) = (if 0 < x.2.2.2.2.2.2.1 then x.2.2.2.2.2.1 else M 105 (p : Int)) → RM (bmq A p x.2.2.2.1 1 x.2.2.2.2.2.2.1 x.2.2.2.2.2.1 ++ x :: R) M' := by
    intro M' f1 f2 f3 f4 f5 f6
    have hl2 : (bmq A p x.2.2.2.1 1 x.2.2.2.2.2.2.1 x.2.2.2.2.2.1 ++ x :: R).length = A.length + R.length + 1 := by rw [List.length_append, bmq_len]; simp; omega
    refine ⟨by rw [f2 77 44 (by decide), h1, hl, hl2], by omega, fun i hi => ?_⟩
    have hi' : i < (A ++ x :: R).length := by omega
    have g := h3 i hi'
    by_cases e : i = p
    · subst e
      rw [qd_app1 (by rw [bmq_len]; exact hp), bmq_at hp, if_pos rfl]
      unfold bmx
      simp only
      rw [f2 100 _ (by decide), f2 101 _ (by decide), f2 102 _ (by decide), f2 108 _ (by decide), f3, f4, f5, f6, gp.2.2.1, gp.2.2.2.1, gp.2.2.2.2.2.2.1, gp.2.2.2.2.2.1]
      exact ⟨gp.1, gp.2.1, rfl, rfl, gp.2.2.2.2.1, rfl, rfl, gp.2.2.2.2.2.2.2⟩
    · have e2 : (bmq A p x.2.2.2.1 1 x.2.2.2.2.2.2.1 x.2.2.2.2.2.1 ++ x :: R).getD i n0 = (A ++ x :: R).getD i n0 := by
        by_cases hia : i < A.length
        · rw [qd_app1 (by rw [bmq_len]; exact hia), bmq_at hp, if_neg e, qd_app1 hia]
        · rw [qd_app2 (by rw [bmq_len]; omega), bmq_len, qd_app2 (by omega)]
      rw [e2, f1 100 _ (by decide) (by decide) (by decide) (by omega), f1 101 _ (by decide) (by decide) (by decide) (by omega), f1 103 _ (by decide) (by decide) (by decide) (by omega), f1 107 _ (by decide) (by decide) (by decide) (by omega), f1 102 _ (by decide) (by decide) (by decide) (by omega), f1 105 _ (by decide) (by decide) (by decide) (by omega), f1 106 _ (by decide) (by decide) (by decide) (by omega), f1 108 _ (by decide) (by decide) (by decide) (by omega)]
      exact g
  have hM6 := gx.2.2.2.2.2.2.1
  by_cases ht : 0 < x.2.2.2.2.2.2.1
  · refine v_load rfl rfl ⟨rfl, Nat.le_of_ble_eq_true rfl⟩ ?_
    refine v_ifle rfl (fun h => absurd h (by omega)) (fun _ => ?_)
    refine v_load rfl rfl ⟨rfl, Nat.le_of_ble_eq_true rfl⟩ ?_
    refine v_getp rfl rfl rfl ?_
    refine v_load rfl rfl ⟨rfl, Nat.le_of_ble_eq_true rfl⟩ ?_
    refine v_ald9 rfl rfl ⟨by omega, by show _ < (1600 : Int); omega⟩ ?_
    rw [m101]
    refine v_store rfl ⟨rfl, Nat.le_of_ble_eq_true rfl, Nat.le_of_ble_eq_true rfl, rfl⟩ rfl ?_
    refine v_load rfl rfl ⟨rfl, Nat.le_of_ble_eq_true rfl⟩ ?_
    refine v_getp rfl rfl rfl ?_
    refine v_load rfl rfl ⟨rfl, Nat.le_of_ble_eq_true rfl⟩ ?_
    refine v_load rfl rfl ⟨rfl, Nat.le_of_ble_eq_true rfl⟩ ?_
    refine v_getp rfl rfl rfl ?_
    refine v_load rfl rfl ⟨rfl, Nat.le_of_ble_eq_true rfl⟩ ?_
    refine v_ald9 rfl rfl ⟨by omega, by show _ < (1600 : Int); omega⟩ ?_
    refine v_push rfl ?_
    refine v_add rfl (by omega) ?_
    refine v_ast9 rfl rfl (by decide) ⟨by omega, by show _ < (1600 : Int); omega⟩ ?_
    refine v_load rfl rfl ⟨rfl, Nat.le_of_ble_eq_true rfl⟩ ?_
    refine v_getp rfl rfl rfl ?_
    refine v_load rfl rfl ⟨rfl, Nat.le_of_ble_eq_true rfl⟩ ?_
    refine v_load rfl rfl ⟨rfl, Nat.le_of_ble_eq_true rfl⟩ ?_
    refine v_getp rfl rfl rfl ?_
    refine v_load rfl rfl ⟨rfl, Nat.le_of_ble_eq_true rfl⟩ ?_
    refine v_ald9 rfl rfl ⟨by omega, by show _ < (1600 : Int); omega⟩ ?_
    simp (disch := decide) only [u_n1]
    refine v_load rfl rfl ⟨rfl, Nat.le_of_ble_eq_true rfl⟩ ?_
    refine v_getp rfl rfl rfl ?_
    refine v_load rfl rfl ⟨rfl, Nat.le_of_ble_eq_true rfl⟩ ?_
    refine v_ald9 rfl rfl ⟨by omega, by show _ < (1600 : Int); omega⟩ ?_
    simp (disch := decide) only [u_n1]; rw [gx.2.2.2.1]
    refine v_add rfl (by omega) ?_
    refine v_ast9 rfl rfl (by decide) ⟨by omega, by show _ < (1600 : Int); omega⟩ ?_
    refine v_load rfl rfl ⟨rfl, Nat.le_of_ble_eq_true rfl⟩ ?_
    refine v_getp rfl rfl rfl ?_
    refine v_load rfl rfl ⟨rfl, Nat.le_of_ble_eq_true rfl⟩ ?_
    refine v_load rfl rfl ⟨rfl, Nat.le_of_ble_eq_true rfl⟩ ?_
    refine v_getp rfl rfl rfl ?_
    refine v_load rfl rfl ⟨rfl, Nat.le_of_ble_eq_true rfl⟩ ?_
    refine v_ald9 rfl rfl ⟨by omega, by show _ < (1600 : Int); omega⟩ ?_
    simp (disch := decide) only [u_n1]
    refine v_load rfl rfl ⟨rfl, Nat.le_of_ble_eq_true rfl⟩ ?_
    refine v_getp rfl rfl rfl ?_
    refine v_load rfl rfl ⟨rfl, Nat.le_of_ble_eq_true rfl⟩ ?_
    refine v_ald9 rfl rfl ⟨by omega, by show _ < (1600 : Int); omega⟩ ?_
    simp (disch := decide) only [u_n1]; rw [hM6]
    refine v_add rfl (by omega) ?_
    refine v_ast9 rfl rfl (by decide) ⟨by omega, by show _ < (1600 : Int); omega⟩ ?_
    refine v_load rfl rfl ⟨rfl, Nat.le_of_ble_eq_true rfl⟩ ?_
    refine v_getp rfl rfl rfl ?_
    refine v_load rfl rfl ⟨rfl, Nat.le_of_ble_eq_true rfl⟩ ?_
    refine v_ald9 rfl rfl ⟨by omega, by show _ < (1600 : Int); omega⟩ ?_
    simp (disch := first | decide | assumption) only [u_n1, u_n2]; rw [hM6]
    refine v_ifle rfl (fun h => absurd h (by omega)) (fun _ => ?_)
    refine v_load rfl rfl ⟨rfl, Nat.le_of_ble_eq_true rfl⟩ ?_
    refine v_getp rfl rfl rfl ?_
    refine v_load rfl rfl ⟨rfl, Nat.le_of_ble_eq_true rfl⟩ ?_
    refine v_load rfl rfl ⟨rfl, Nat.le_of_ble_eq_true rfl⟩ ?_
    refine v_getp rfl rfl rfl ?_
    refine v_load rfl rfl ⟨rfl, Nat.le_of_ble_eq_true rfl⟩ ?_
    refine v_ald9 rfl rfl ⟨by omega, by show _ < (1600 : Int); omega⟩ ?_
    simp (disch := decide) only [u_n1]; rw [gx.2.2.2.2.2.1]
    refine v_ast9 rfl rfl (by decide) ⟨by omega, by show _ < (1600 : Int); omega⟩ ?_
    refine v_iinc rfl rfl rfl (by omega) rfl ?_
    refine v_goto rfl ?_
    refine k _ _ (fin _ ?_ ?_ ?_ ?_ ?_ ?_) ?_
    · intro b j b1 b2 b3 hj
      simp (disch := assumption) only [u_n2]
    · intro b j hb
      simp (disch := omega) only [u_n1]
    · simp (disch := decide) only [u_n1, u_eq]
    · simp (disch := decide) only [u_n1, u_eq]
    · simp (disch := decide) only [u_n1, u_eq]
    · rw [if_pos ht, u_eq]
    · intro b j c1 c2 c3 c4
      simp (disch := assumption) only [u_n1]
  · refine v_load rfl rfl ⟨rfl, Nat.le_of_ble_eq_true rfl⟩ ?_
    refine v_ifle rfl (fun h => absurd h (by omega)) (fun _ => ?_)
    refine v_load rfl rfl ⟨rfl, Nat.le_of_ble_eq_true rfl⟩ ?_
    refine v_getp rfl rfl rfl ?_
    refine v_load rfl rfl ⟨rfl, Nat.le_of_ble_eq_true rfl⟩ ?_
    refine v_ald9 rfl rfl ⟨by omega, by show _ < (1600 : Int); omega⟩ ?_
    rw [m101]
    refine v_store rfl ⟨rfl, Nat.le_of_ble_eq_true rfl, Nat.le_of_ble_eq_true rfl, rfl⟩ rfl ?_
    refine v_load rfl rfl ⟨rfl, Nat.le_of_ble_eq_true rfl⟩ ?_
    refine v_getp rfl rfl rfl ?_
    refine v_load rfl rfl ⟨rfl, Nat.le_of_ble_eq_true rfl⟩ ?_
    refine v_load rfl rfl ⟨rfl, Nat.le_of_ble_eq_true rfl⟩ ?_
    refine v_getp rfl rfl rfl ?_
    refine v_load rfl rfl ⟨rfl, Nat.le_of_ble_eq_true rfl⟩ ?_
    refine v_ald9 rfl rfl ⟨by omega, by show _ < (1600 : Int); omega⟩ ?_
    refine v_push rfl ?_
    refine v_add rfl (by omega) ?_
    refine v_ast9 rfl rfl (by decide) ⟨by omega, by show _ < (1600 : Int); omega⟩ ?_
    refine v_load rfl rfl ⟨rfl, Nat.le_of_ble_eq_true rfl⟩ ?_
    refine v_getp rfl rfl rfl ?_
    refine v_load rfl rfl ⟨rfl, Nat.le_of_ble_eq_true rfl⟩ ?_
    refine v_load rfl rfl ⟨rfl, Nat.le_of_ble_eq_true rfl⟩ ?_
    refine v_getp rfl rfl rfl ?_
    refine v_load rfl rfl ⟨rfl, Nat.le_of_ble_eq_true rfl⟩ ?_
    refine v_ald9 rfl rfl ⟨by omega, by show _ < (1600 : Int); omega⟩ ?_
    simp (disch := decide) only [u_n1]
    refine v_load rfl rfl ⟨rfl, Nat.le_of_ble_eq_true rfl⟩ ?_
    refine v_getp rfl rfl rfl ?_
    refine v_load rfl rfl ⟨rfl, Nat.le_of_ble_eq_true rfl⟩ ?_
    refine v_ald9 rfl rfl ⟨by omega, by show _ < (1600 : Int); omega⟩ ?_
    simp (disch := decide) only [u_n1]; rw [gx.2.2.2.1]
    refine v_add rfl (by omega) ?_
    refine v_ast9 rfl rfl (by decide) ⟨by omega, by show _ < (1600 : Int); omega⟩ ?_
    refine v_load rfl rfl ⟨rfl, Nat.le_of_ble_eq_true rfl⟩ ?_
    refine v_getp rfl rfl rfl ?_
    refine v_load rfl rfl ⟨rfl, Nat.le_of_ble_eq_true rfl⟩ ?_
    refine v_load rfl rfl ⟨rfl, Nat.le_of_ble_eq_true rfl⟩ ?_
    refine v_getp rfl rfl rfl ?_
    refine v_load rfl rfl ⟨rfl, Nat.le_of_ble_eq_true rfl⟩ ?_
    refine v_ald9 rfl rfl ⟨by omega, by show _ < (1600 : Int); omega⟩ ?_
    simp (disch := decide) only [u_n1]
    refine v_load rfl rfl ⟨rfl, Nat.le_of_ble_eq_true rfl⟩ ?_
    refine v_getp rfl rfl rfl ?_
    refine v_load rfl rfl ⟨rfl, Nat.le_of_ble_eq_true rfl⟩ ?_
    refine v_ald9 rfl rfl ⟨by omega, by show _ < (1600 : Int); omega⟩ ?_
    simp (disch := decide) only [u_n1]; rw [hM6]
    refine v_add rfl (by omega) ?_
    refine v_ast9 rfl rfl (by decide) ⟨by omega, by show _ < (1600 : Int); omega⟩ ?_
    refine v_load rfl rfl ⟨rfl, Nat.le_of_ble_eq_true rfl⟩ ?_
    refine v_getp rfl rfl rfl ?_
    refine v_load rfl rfl ⟨rfl, Nat.le_of_ble_eq_true rfl⟩ ?_
    refine v_ald9 rfl rfl ⟨by omega, by show _ < (1600 : Int); omega⟩ ?_
    simp (disch := first | decide | assumption) only [u_n1, u_n2]; rw [hM6]
    refine v_ifle rfl (fun _ => ?_) (fun h => absurd h (by omega))
    refine v_iinc rfl rfl rfl (by omega) rfl ?_
    refine v_goto rfl ?_
    refine k _ _ (fin _ ?_ ?_ ?_ ?_ ?_ ?_) ?_
    · intro b j b1 b2 b3 hj
      simp (disch := assumption) only [u_n2]
    · intro b j hb
      simp (disch := omega) only [u_n1]
    · simp (disch := decide) only [u_n1, u_eq]
    · simp (disch := decide) only [u_n1, u_eq]
    · simp (disch := decide) only [u_n1, u_eq]
    · rw [if_neg ht]; simp (disch := decide) only [u_n1]
    · intro b j c1 c2 c3 c4
      simp (disch := assumption) only [u_n1]
theorem shp_nl {so a : Int} {hs : List zN} (h : shp T so a hs) : isLf so = false ∧ so ≠ 17 ∧ so ≠ 0 := by
  unfold shp at h
  rcases h with ⟨rfl, -⟩ | ⟨rfl, -⟩ | ⟨rfl, -⟩ | ⟨rfl, -⟩ | ⟨rfl, -⟩ | ⟨rfl | rfl, -⟩ | ⟨rfl | rfl, -⟩ | ⟨rfl, -⟩ <;> decide
theorem lfs_lf {a so sg : Int} (h : lfs T a so sg) : isLf so = true := by
  obtain ⟨-, h⟩ := h
  rcases h with ⟨rfl, -⟩ | ⟨rfl, -⟩ | ⟨rfl, -⟩ | ⟨rfl, -⟩ | ⟨rfl | rfl, -⟩ <;> rfl
end RNW
