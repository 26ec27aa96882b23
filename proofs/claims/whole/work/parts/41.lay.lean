/-! LAYING the drafts into the tree: methods 60, 61, 109, 110 -/
/-- forests: a node with its children, then the next ones -/
def wfF (ts : List (List zN)) : Prop := ∀ C : List (List zN) → Prop, C [] → (∀ so fr up sg cs ts, C cs → C ts → C (mkN so fr up sg cs :: ts)) → C ts
theorem wf_nil : wfF [] := fun _ h _ => h
theorem wf_cons {so fr up sg : Int} {cs ts : List (List zN)} (h1 : wfF cs) (h2 : wfF ts) : wfF (mkN so fr up sg cs :: ts) := fun C k1 k2 => k2 so fr up sg cs ts (h1 C k1 k2) (h2 C k1 k2)
theorem wf_ind {C : List (List zN) → Prop} {ts : List (List zN)} (h : wfF ts) (k1 : C []) (k2 : ∀ so fr up sg cs ts, wfF cs → wfF ts → C cs → C ts → C (mkN so fr up sg cs :: ts)) : C ts :=
  (h (fun ts => wfF ts ∧ C ts) ⟨wf_nil, k1⟩ (fun so fr up sg cs ts h1 h2 => ⟨wf_cons h1.1 h2.1, k2 so fr up sg cs ts h1.1 h2.1 h1.2 h2.2⟩)).2
theorem fo_wf {M : zM} {p x : Int} {ts : List (List zN)} {I : List Int} (h : fo M p x ts I) : wfF ts :=
  fo_ind (C := fun _ _ ts _ => wfF ts) h (fun _ => wf_nil) (fun _ _ _ _ _ _ _ _ _ _ _ _ _ _ _ _ _ _ _ ic it => wf_cons ic it)
/-- the nodes in their order: p the one they are children of, dp their depth, base the first one's number -/
def lay (p dp base : Int) (F : List zN) : List zQ := match F with
  | [] => []
  | n :: r => (n.1, p, n.2.1, n.2.2.1, dp, n.2.2.2.1, n.2.2.2.2.1, n.2.2.2.2.2) :: (lay base (dp + 1) (base + 1) (r.take (n.2.2.1 - 1).toNat) ++ lay p dp (base + 1 + (((n.2.2.1 - 1).toNat : Nat) : Int)) (r.drop (n.2.2.1 - 1).toNat))
termination_by F.length
decreasing_by
  all_goals simp only [List.length_take, List.length_drop, List.length_cons]
  all_goals omega
theorem lay_nil (p dp base : Int) : lay p dp base [] = [] := by unfold lay; rfl
theorem lay_cons (p dp base so fr up sg : Int) (cs ts : List (List zN)) : lay p dp base (mkN so fr up sg cs :: ts).flatten = (so, p, (cs.length : Int), (cs.flatten.length : Int) + 1, dp, fr, up - fr, sg) :: (lay base (dp + 1) (base + 1) cs.flatten ++ lay p dp (base + 1 + (cs.flatten.length : Int)) ts.flatten) := by
  have e : (mkN so fr up sg cs :: ts).flatten = (so, (cs.length : Int), (cs.flatten.length : Int) + 1, fr, up - fr, sg) :: (cs.flatten ++ ts.flatten) := rfl
  rw [e]
  conv => lhs; unfold lay
  simp only
  rw [show ((cs.flatten.length : Int) + 1 - 1).toNat = cs.flatten.length by omega, List.take_left, List.drop_left]
theorem lay_len {ts : List (List zN)} (h : wfF ts) : ∀ p dp base, (lay p dp base ts.flatten).length = ts.flatten.length := by
  refine wf_ind (C := fun ts => ∀ p dp base, (lay p dp base ts.flatten).length = ts.flatten.length) h (fun p dp base => by rw [show ([] : List (List zN)).flatten = [] from rfl, lay_nil]; rfl) ?_
  intro so fr up sg cs ts _ _ i1 i2 p dp base
  rw [lay_cons, List.length_cons, List.length_append, i1, i2, List.flatten_cons, List.length_append, mkN_len]
  omega
/-- as it is laid, ahead of counting -/
def q0 (q : zQ) : zQ := (q.1, q.2.1, 0, 1, q.2.2.2.2)
theorem fo_neg {M : zM} {p x : Int} {ts : List (List zN)} {I : List Int} (h : fo M p x ts I) : (x = -1 ∧ ts = [] ∧ I = []) ∨ (0 ≤ x ∧ ts ≠ []) :=
  fo_ind (C := fun _ x ts I => (x = -1 ∧ ts = [] ∧ I = []) ∨ (0 ≤ x ∧ ts ≠ [])) h (fun _ => Or.inl ⟨rfl, rfl, rfl⟩) (fun _ _ _ _ _ _ _ _ _ _ h0 _ _ _ _ _ _ _ _ _ _ => Or.inr ⟨h0, fun z => by cases z⟩)
/-- the next one around -/
def NA (M : zM) (h : Int) : Nat → Int → Int → Prop
  | 0, x, y => ¬ (0 ≤ x ∧ x < h) ∧ y = -1
  | n + 1, x, y => (0 ≤ x ∧ x < h) ∧ ((M 60 x ≠ -1 ∧ y = M 60 x) ∨ (M 60 x = -1 ∧ NA M h n (M 57 x) y))
section LY
variable {L d : Nat} {Q : Option zV → zM → Prop} {T : List zT} {h a : Int}
theorem S_around_loop {M : zM} (hP : PS T h a M) : ∀ (n : Nat) (x y x0 turn : Int), NA M h n x y → 0 ≤ turn → turn + (n : Int) ≤ 1216 → Q (some (0, y)) M → v_wp L (d + 1) 61 4 [(2, 52), (0, x0), (0, x), (0, turn)] [] M Q
  | 0, x, y, x0, turn, hN, ht, htn, k => by
    obtain ⟨h1, rfl⟩ := hN
    refine v_load rfl rfl ⟨rfl, Nat.le_of_ble_eq_true rfl⟩ ?_
    refine v_push rfl ?_
    refine v_ige rfl (fun c1 => ?_) (fun c1 => ?_)
    · refine v_push rfl ?_
      refine v_ret rfl rfl ?_
      exact k
    · refine v_load rfl rfl ⟨rfl, Nat.le_of_ble_eq_true rfl⟩ ?_
      refine v_load rfl rfl ⟨rfl, Nat.le_of_ble_eq_true rfl⟩ ?_
      refine v_callr rfl ⟨Nat.le_of_ble_eq_true rfl, Nat.le_of_ble_eq_true rfl, rfl, Nat.le_of_ble_eq_true rfl, rfl⟩ ?_
      refine S_heldN hP h1 ?_
      refine v_ifeq rfl (fun _ => ?_) (fun h => absurd h (by omega))
      refine v_push rfl ?_
      refine v_ret rfl rfl ?_
      exact k
  | n + 1, x, y, x0, turn, hN, ht, htn, k => by
    obtain ⟨h1, hN⟩ := hN
    have q2 := hP.2.2.2.2.1
    rcases hN with ⟨h2, rfl⟩ | ⟨h2, hN⟩
    · refine v_load rfl rfl ⟨rfl, Nat.le_of_ble_eq_true rfl⟩ ?_
      refine v_push rfl ?_
      refine v_ige rfl (fun h => absurd h (by omega)) (fun _ => ?_)
      refine v_load rfl rfl ⟨rfl, Nat.le_of_ble_eq_true rfl⟩ ?_
      refine v_load rfl rfl ⟨rfl, Nat.le_of_ble_eq_true rfl⟩ ?_
      refine v_callr rfl ⟨Nat.le_of_ble_eq_true rfl, Nat.le_of_ble_eq_true rfl, rfl, Nat.le_of_ble_eq_true rfl, rfl⟩ ?_
      refine S_held hP h1 ?_
      refine v_ifeq rfl (fun h => absurd h (by omega)) (fun _ => ?_)
      refine v_load rfl rfl ⟨rfl, Nat.le_of_ble_eq_true rfl⟩ ?_
      refine v_getp rfl rfl rfl ?_
      refine v_load rfl rfl ⟨rfl, Nat.le_of_ble_eq_true rfl⟩ ?_
      refine v_ald9 rfl rfl ⟨by omega, by show _ < (1216 : Int); omega⟩ ?_
      refine v_push rfl ?_
      refine v_ieq rfl (fun h => absurd h (by omega)) (fun _ => ?_)
      refine v_load rfl rfl ⟨rfl, Nat.le_of_ble_eq_true rfl⟩ ?_
      refine v_getp rfl rfl rfl ?_
      refine v_load rfl rfl ⟨rfl, Nat.le_of_ble_eq_true rfl⟩ ?_
      refine v_ald9 rfl rfl ⟨by omega, by show _ < (1216 : Int); omega⟩ ?_
      refine v_ret rfl rfl ?_
      exact k
    · refine v_load rfl rfl ⟨rfl, Nat.le_of_ble_eq_true rfl⟩ ?_
      refine v_push rfl ?_
      refine v_ige rfl (fun h => absurd h (by omega)) (fun _ => ?_)
      refine v_load rfl rfl ⟨rfl, Nat.le_of_ble_eq_true rfl⟩ ?_
      refine v_load rfl rfl ⟨rfl, Nat.le_of_ble_eq_true rfl⟩ ?_
      refine v_callr rfl ⟨Nat.le_of_ble_eq_true rfl, Nat.le_of_ble_eq_true rfl, rfl, Nat.le_of_ble_eq_true rfl, rfl⟩ ?_
      refine S_held hP h1 ?_
      refine v_ifeq rfl (fun h => absurd h (by omega)) (fun _ => ?_)
      refine v_load rfl rfl ⟨rfl, Nat.le_of_ble_eq_true rfl⟩ ?_
      refine v_getp rfl rfl rfl ?_
      refine v_load rfl rfl ⟨rfl, Nat.le_of_ble_eq_true rfl⟩ ?_
      refine v_ald9 rfl rfl ⟨by omega, by show _ < (1216 : Int); omega⟩ ?_
      refine v_push rfl ?_
      refine v_ieq rfl (fun _ => ?_) (fun h => absurd h (by omega))
      refine v_load rfl rfl ⟨rfl, Nat.le_of_ble_eq_true rfl⟩ ?_
      refine v_getp rfl rfl rfl ?_
      refine v_load rfl rfl ⟨rfl, Nat.le_of_ble_eq_true rfl⟩ ?_
      refine v_ald9 rfl rfl ⟨by omega, by show _ < (1216 : Int); omega⟩ ?_
      refine v_store rfl ⟨rfl, Nat.le_of_ble_eq_true rfl, Nat.le_of_ble_eq_true rfl, rfl⟩ rfl ?_
      refine v_iinc rfl rfl rfl (by omega) rfl ?_
      refine v_goto rfl ?_
      exact S_around_loop hP n _ y x0 (turn + 1) hN (by omega) (by omega) k
theorem S_around {M : zM} {n : Nat} {x y : Int} (hP : PS T h a M) (hN : NA M h n x y) (hn : n ≤ 1216) (k : Q (some (0, y)) M) : v_call L (d + 1) 61 [(2, 52), (0, x)] M Q := by
  refine v_in ?_
  refine v_load rfl rfl ⟨rfl, Nat.le_of_ble_eq_true rfl⟩ ?_
  refine v_store rfl ⟨rfl, Nat.le_of_ble_eq_true rfl, Nat.le_of_ble_eq_true rfl, rfl⟩ rfl ?_
  refine v_push rfl ?_
  refine v_store rfl ⟨rfl, Nat.le_of_ble_eq_true rfl, Nat.le_of_ble_eq_true rfl, rfl⟩ rfl ?_
  exact S_around_loop hP n x y _ 0 hN (by omega) (by omega) k
theorem S_ndAdd {N : List zQ} {M : zM} {so up fr ta sg : Int} (hR : RN N M) (hl : N.length < 1216) (hb : -1000 ≤ (nd N up).2.2.2.2.1 ∧ (nd N up).2.2.2.2.1 ≤ 10000) (k : ∀ M', RN (N ++ [(so, up, 0, 1, (nd N up).2.2.2.2.1 + 1, fr, ta, sg)]) M' → z_oR 42 50 M M' → Q (some (0, (N.length : Int))) M') : v_call L (d + 2) 110 [(2, 42), (0, so), (0, up), (0, fr), (0, ta), (0, sg)] M Q := by
  have h1 := hR.1
  refine v_in ?_
  refine v_load rfl rfl ⟨rfl, Nat.le_of_ble_eq_true rfl⟩ ?_
  refine v_getx rfl rfl (h1) ?_
  refine v_iflt rfl (fun h => absurd h (by omega)) (fun _ => ?_)
  refine v_load rfl rfl ⟨rfl, Nat.le_of_ble_eq_true rfl⟩ ?_
  refine v_getx rfl rfl (h1) ?_
  refine v_push rfl ?_
  refine v_ilt rfl (fun _ => ?_) (fun h => absurd h (by omega))
  refine v_load rfl rfl ⟨rfl, Nat.le_of_ble_eq_true rfl⟩ ?_
  refine v_getp rfl rfl rfl ?_
  refine v_load rfl rfl ⟨rfl, Nat.le_of_ble_eq_true rfl⟩ ?_
  refine v_getx rfl rfl (h1) ?_
  refine v_load rfl rfl ⟨rfl, Nat.le_of_ble_eq_true rfl⟩ ?_
  refine v_ast9 rfl rfl (by decide) ⟨by omega, by show _ < (1216 : Int); omega⟩ ?_
  refine v_load rfl rfl ⟨rfl, Nat.le_of_ble_eq_true rfl⟩ ?_
  refine v_getp rfl rfl rfl ?_
  refine v_load rfl rfl ⟨rfl, Nat.le_of_ble_eq_true rfl⟩ ?_
  refine v_getx rfl rfl (show _ = (N.length : Int) by simp (disch := decide) only [u_n1, h1]) ?_
  refine v_load rfl rfl ⟨rfl, Nat.le_of_ble_eq_true rfl⟩ ?_
  refine v_ast9 rfl rfl (by decide) ⟨by omega, by show _ < (1216 : Int); omega⟩ ?_
  refine v_load rfl rfl ⟨rfl, Nat.le_of_ble_eq_true rfl⟩ ?_
  refine v_getp rfl rfl rfl ?_
  refine v_load rfl rfl ⟨rfl, Nat.le_of_ble_eq_true rfl⟩ ?_
  refine v_getx rfl rfl (show _ = (N.length : Int) by simp (disch := decide) only [u_n1, h1]) ?_
  refine v_push rfl ?_
  refine v_ast9 rfl rfl (by decide) ⟨by omega, by show _ < (1216 : Int); omega⟩ ?_
  refine v_load rfl rfl ⟨rfl, Nat.le_of_ble_eq_true rfl⟩ ?_
  refine v_getp rfl rfl rfl ?_
  refine v_load rfl rfl ⟨rfl, Nat.le_of_ble_eq_true rfl⟩ ?_
  refine v_getx rfl rfl (show _ = (N.length : Int) by simp (disch := decide) only [u_n1, h1]) ?_
  refine v_push rfl ?_
  refine v_ast9 rfl rfl (by decide) ⟨by omega, by show _ < (1216 : Int); omega⟩ ?_
  refine v_load rfl rfl ⟨rfl, Nat.le_of_ble_eq_true rfl⟩ ?_
  refine v_getp rfl rfl rfl ?_
  refine v_load rfl rfl ⟨rfl, Nat.le_of_ble_eq_true rfl⟩ ?_
  refine v_getx rfl rfl (show _ = (N.length : Int) by simp (disch := decide) only [u_n1, h1]) ?_
  refine v_load rfl rfl ⟨rfl, Nat.le_of_ble_eq_true rfl⟩ ?_
  have hR2 : RN N (z_upd (z_upd (z_upd (z_upd M 43 (N.length : Int) so) 44 (N.length : Int) up) 45 (N.length : Int) 0) 46 (N.length : Int) 1) := by
    refine ⟨by simp (disch := decide) only [u_n1]; exact h1, hR.2.1, fun i hi => ?_⟩
    have e : ((i : Nat) : Int) ≠ (N.length : Int) := by omega
    simp (disch := assumption) only [u_n2]
    exact hR.2.2 i hi
  refine v_load rfl rfl ⟨rfl, Nat.le_of_ble_eq_true rfl⟩ ?_
  refine v_callr rfl ⟨Nat.le_of_ble_eq_true rfl, Nat.le_of_ble_eq_true rfl, rfl, Nat.le_of_ble_eq_true rfl, rfl⟩ ?_
  refine S_ndDepth hR2 ?_
  refine v_push rfl ?_
  refine v_add rfl (by omega) ?_
  refine v_ast9 rfl rfl (by decide) ⟨by omega, by show _ < (1216 : Int); omega⟩ ?_
  refine v_load rfl rfl ⟨rfl, Nat.le_of_ble_eq_true rfl⟩ ?_
  refine v_getp rfl rfl rfl ?_
  refine v_load rfl rfl ⟨rfl, Nat.le_of_ble_eq_true rfl⟩ ?_
  refine v_getx rfl rfl (show _ = (N.length : Int) by simp (disch := decide) only [u_n1, h1]) ?_
  refine v_load rfl rfl ⟨rfl, Nat.le_of_ble_eq_true rfl⟩ ?_
  refine v_ast9 rfl rfl (by decide) ⟨by omega, by show _ < (1216 : Int); omega⟩ ?_
  refine v_load rfl rfl ⟨rfl, Nat.le_of_ble_eq_true rfl⟩ ?_
  refine v_getp rfl rfl rfl ?_
  refine v_load rfl rfl ⟨rfl, Nat.le_of_ble_eq_true rfl⟩ ?_
  refine v_getx rfl rfl (show _ = (N.length : Int) by simp (disch := decide) only [u_n1, h1]) ?_
  refine v_load rfl rfl ⟨rfl, Nat.le_of_ble_eq_true rfl⟩ ?_
  refine v_ast9 rfl rfl (by decide) ⟨by omega, by show _ < (1216 : Int); omega⟩ ?_
  refine v_load rfl rfl ⟨rfl, Nat.le_of_ble_eq_true rfl⟩ ?_
  refine v_getp rfl rfl rfl ?_
  refine v_load rfl rfl ⟨rfl, Nat.le_of_ble_eq_true rfl⟩ ?_
  refine v_getx rfl rfl (show _ = (N.length : Int) by simp (disch := decide) only [u_n1, h1]) ?_
  refine v_load rfl rfl ⟨rfl, Nat.le_of_ble_eq_true rfl⟩ ?_
  refine v_ast9 rfl rfl (by decide) ⟨by omega, by show _ < (1216 : Int); omega⟩ ?_
  refine v_load rfl rfl ⟨rfl, Nat.le_of_ble_eq_true rfl⟩ ?_
  refine v_dup rfl (Or.inr rfl) ?_
  refine v_getx rfl rfl (show _ = (N.length : Int) by simp (disch := decide) only [u_n1, h1]) ?_
  refine v_push rfl ?_
  refine v_add rfl (by omega) ?_
  refine v_puti rfl rfl rfl ?_
  refine v_load rfl rfl ⟨rfl, Nat.le_of_ble_eq_true rfl⟩ ?_
  refine v_getx rfl rfl (show _ = (N.length : Int) + 1 by simp (disch := decide) only [u_eq]) ?_
  refine v_push rfl ?_
  refine v_sub rfl (by omega) ?_
  refine v_ret rfl rfl ?_
  rw [show (N.length : Int) + 1 - 1 = (N.length : Int) by omega]
  refine k _ ⟨by rw [u_eq]; simp, by simp; omega, fun i hi => ?_⟩ (fun b j hb => ?_)
  · by_cases e1 : i = N.length
    · subst e1
      simp (disch := decide) only [u_n1, u_eq]
      rw [List.getD_eq_getElem?_getD, List.getElem?_append_right (Nat.le_refl _)]
      simp
    · have hi2 : i < N.length := by simp at hi; omega
      have := hR.2.2 i hi2
      have e2 : ((i : Nat) : Int) ≠ (N.length : Int) := by omega
      have e3 : ∀ q : zQ, (N ++ [q]).getD i n0 = N.getD i n0 := fun q => by rw [List.getD_eq_getElem?_getD, List.getD_eq_getElem?_getD, List.getElem?_append_left hi2]
      rw [e3]
      simp (disch := first | decide | omega) only [u_n1, u_n2]
      exact this
  · simp (disch := omega) only [u_n1]
end LY
