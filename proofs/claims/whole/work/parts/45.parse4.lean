/-! THE CLASS'S PARSE as a whole -/
theorem P0_end (T : List zT) : ∀ (f : Nat) (ne a : Int) (r : List (List zN) × Int), P T f 0 ne [] a = some r → (T.length : Int) ≤ r.2
  | 0, _, _, _, h => by simp [P] at h
  | f + 1, ne, a, r, h => by
    unfold P at h
    simp only at h
    split at h
    · rename_i hc
      rw [← Option.some.inj h]
      rcases hc with z | z
      · show (T.length : Int) ≤ a
        omega
      · exact absurd rfl z.1
    · obtain ⟨e, e1, e2⟩ := ob_some h
      obtain ⟨r2, e3, e4⟩ := ob_some e2
      rw [← Option.some.inj e4]
      show (T.length : Int) ≤ r2.2
      exact P0_end T f ne _ _ e3
/-- the items of all tokens -/
noncomputable def itemsOf (T : List zT) : List (List zN) := Classical.epsilon (fun ts => ∃ f, P T f 0 0 [] 0 = some (ts, (T.length : Int)))
noncomputable def topN (T : List zT) : List zN := mkN 0 0 (T.length : Int) 0 (bal (itemsOf T))
/-- the nodes of all tokens -/
noncomputable def NT (T : List zT) : List zQ := lay (-1) 1 0 [topN T].flatten
theorem itemsOf_ok {T : List zT} (hT : tkOK T) : (∃ f, P T f 0 0 [] 0 = some (itemsOf T, (T.length : Int))) ∧ cv T 0 (itemsOf T) (T.length : Int) ∧ (∀ τ ∈ itemsOf T, isI (hdN τ)) ∧ ((bal (itemsOf T)).flatten.length : Int) ≤ 4 * (T.length : Int) := by
  have hx : ∃ ts, ∃ f, P T f 0 0 [] 0 = some (ts, (T.length : Int)) := by
    obtain ⟨f, r, e, ok⟩ := (px_all hT _ 0 (Int.le_refl _) (by omega) (Nat.lt_succ_self _)).2.2.2.2.2.2.2.2 0 []
    have h1 := P0_end T f 0 0 r e
    have h2 := ok.2.1
    refine ⟨r.1, f, ?_⟩
    rw [e, show (T.length : Int) = r.2 by omega]
  have h := Classical.epsilon_spec hx
  have h : ∃ f, P T f 0 0 [] 0 = some (itemsOf T, (T.length : Int)) := h
  refine ⟨h, ?_⟩
  obtain ⟨f, e⟩ := h
  obtain ⟨c1, c2⟩ := P_cv hT f 0 0 [] 0 _ (Int.le_refl _) (by omega) (fun z => by omega) e
  refine ⟨c1, c2, ?_⟩
  obtain ⟨-, -, o3, -⟩ := P_ok0 hT e (Int.le_refl _) (by omega)
  have o3 : ((itemsOf T).flatten.length : Int) + ((itemsOf T).length : Int) ≤ 4 * ((T.length : Int) - 0) + 1 := o3
  by_cases he : itemsOf T = []
  · rw [he]
    show (0 : Int) ≤ _
    omega
  · have := bal_len2 (itemsOf T) he
    omega
theorem top_cv {T : List zT} (hT : tkOK T) : cv T 0 (bal (itemsOf T)) (T.length : Int) ∧ wfF [topN T] := by
  obtain ⟨-, c, i, -⟩ := itemsOf_ok hT
  have := (cv_balT c i).1
  exact ⟨this, wf_cons (cv_wf this) wf_nil⟩
theorem NT_len {T : List zT} (hT : tkOK T) : (NT T).length = (bal (itemsOf T)).flatten.length + 1 ∧ ((NT T).length : Int) ≤ 4 * (T.length : Int) + 1 := by
  have h := lay_len (top_cv hT).2 (-1) 1 0
  have e : [topN T].flatten.length = (bal (itemsOf T)).flatten.length + 1 := by rw [List.flatten_cons, List.flatten_nil, List.append_nil]; exact mkN_len
  rw [e] at h
  have := (itemsOf_ok hT).2.2.2
  exact ⟨h, by unfold NT; omega⟩
theorem NT_eq (T : List zT) : NT T = (0, -1, ((bal (itemsOf T)).length : Int), ((bal (itemsOf T)).flatten.length : Int) + 1, 1, 0, (T.length : Int) - 0, 0) :: lay 0 2 1 (bal (itemsOf T)).flatten := by
  unfold NT topN
  rw [lay_cons, show ([] : List (List zN)).flatten = [] from rfl, lay_nil, List.append_nil]
  rfl
/-- what lay takes of each node -/
def qN (q : zQ) : zN := (q.1, q.2.2.1, q.2.2.2.1, q.2.2.2.2.2.1, q.2.2.2.2.2.2.1, q.2.2.2.2.2.2.2)
theorem lay_map {ts : List (List zN)} (h : wfF ts) : ∀ p dp base, (lay p dp base ts.flatten).map qN = ts.flatten := by
  refine wf_ind (C := fun ts => ∀ p dp base, (lay p dp base ts.flatten).map qN = ts.flatten) h (fun p dp base => by rw [show ([] : List (List zN)).flatten = [] from rfl, lay_nil]; rfl) ?_
  intro so fr up sg cs ts _ _ i1 i2 p dp base
  rw [lay_cons, List.map_cons, List.map_append, i1, i2]
  rfl
/-- the leaf that a token is -/
def lf (N : List zQ) (j : Int) : Int := lfF N N.length (-1) j
theorem cv_leafs {T : List zT} {a b : Int} {ts : List (List zN)} (h : cv T a ts b) : ∀ j, a ≤ j → j < b → ∃ ν ∈ ts.flatten, ν.2.1 = 0 ∧ ν.2.2.2.2.1 = 1 ∧ ν.2.2.2.1 = j := by
  refine cv_ind (C := fun a ts b => ∀ j, a ≤ j → j < b → ∃ ν ∈ ts.flatten, ν.2.1 = 0 ∧ ν.2.2.2.2.1 = 1 ∧ ν.2.2.2.1 = j) h (fun a j h1 h2 => by omega) ?_ ?_ ?_
  · intro a so sg ts b _ _ i j h1 h2
    by_cases e : j = a
    · exact ⟨_, List.mem_append_left _ (List.mem_cons_self ..), rfl, by show a + 1 - a = 1; omega, e.symm⟩
    · obtain ⟨ν, n1, n2⟩ := i j (by omega) h2
      exact ⟨ν, List.mem_append_right _ n1, n2⟩
  · intro a sg ts b _ _ i j h1 h2
    obtain ⟨ν, n1, n2⟩ := i j h1 h2
    exact ⟨ν, List.mem_append_right _ n1, n2⟩
  · intro a m so cs ts b _ _ _ _ i1 i2 j h1 h2
    by_cases e : j < m
    · obtain ⟨ν, n1, n2⟩ := i1 j h1 e
      exact ⟨ν, List.mem_append_left _ (List.mem_cons_of_mem _ n1), n2⟩
    · obtain ⟨ν, n1, n2⟩ := i2 j (by omega) h2
      exact ⟨ν, List.mem_append_right _ n1, n2⟩
theorem lfF_dflt {N : List zQ} {j : Int} : ∀ (n : Nat) (v w : Int), (∃ i, i < n ∧ (N.getD i n0).2.2.1 = 0 ∧ (N.getD i n0).2.2.2.2.2.2.1 = 1 ∧ (N.getD i n0).2.2.2.2.2.1 = j) → lfF N n v j = lfF N n w j
  | 0, _, _, ⟨i, hi, _⟩ => absurd hi (Nat.not_lt_zero _)
  | n + 1, v, w, ⟨i, hi, hc⟩ => by
    unfold lfF
    split
    · rfl
    · rename_i h
      refine lfF_dflt n v w ⟨i, ?_, hc⟩
      by_cases e : i = n
      · subst e; exact absurd hc h
      · omega
theorem lf_ex {T : List zT} (hT : tkOK T) {j : Int} (h0 : 0 ≤ j) (h1 : j < (T.length : Int)) : ∃ i, i < (NT T).length ∧ ((NT T).getD i n0).2.2.1 = 0 ∧ ((NT T).getD i n0).2.2.2.2.2.2.1 = 1 ∧ ((NT T).getD i n0).2.2.2.2.2.1 = j := by
  obtain ⟨ν, n1, n2, n3, n4⟩ := cv_leafs (top_cv hT).1 j h0 h1
  have hm := lay_map (top_cv hT).2 (-1) 1 0
  have hν : ν ∈ (NT T).map qN := by
    show ν ∈ (lay (-1) 1 0 [topN T].flatten).map qN
    rw [hm, List.flatten_cons]
    exact List.mem_append_left _ (List.mem_cons_of_mem _ n1)
  obtain ⟨q, hq, e⟩ := List.mem_map.mp hν
  obtain ⟨i, hi, e2⟩ := List.getElem_of_mem hq
  refine ⟨i, hi, ?_⟩
  have e3 : (NT T).getD i n0 = q := by rw [List.getD_eq_getElem?_getD, List.getElem?_eq_getElem hi, ← e2]; rfl
  rw [e3]
  rw [← e] at n2 n3 n4
  exact ⟨n2, n3, n4⟩
/-- the class's tree: its nodes and the leaves of its tokens -/
def TN (T : List zT) (M : zM) : Prop := RN (NT T) M ∧ ∀ j, 0 ≤ j → j < (T.length : Int) → M 51 j = lf (NT T) j
theorem TN_oR {T : List zT} {M M' : zM} {lo hi : Int} (h : TN T M) (ho : z_oR lo hi M M') (hx : 51 < lo ∨ hi < 42) : TN T M' := ⟨RN_oR h.1 ho hx, fun j h1 h2 => by rw [ho 51 j (by omega)]; exact h.2 j h1 h2⟩
section PA
variable {L d : Nat} {Q : Option zV → zM → Prop} {T : List zT} {M : zM} {h a lo : Int}
theorem S_grow57 {so sg : Int} (hP : PS T h a M) (hh : h < 1216) (ha : a < 999) (k : ∀ M', PS T (h + 1) a M' → OPN h M M' h so a sg [] (h + 1) → M' 57 h = -1 → Q (some (0, h)) M') : v_call L d 51 [(2, 52), (0, so), (0, 0), (0, sg)] M Q := by
  have h1 := hP.1
  have h2 := hP.2.1
  obtain ⟨-, -, hR, q1, q2, q3, q4⟩ := hP
  refine v_in ?_
  refine v_load rfl rfl ⟨rfl, Nat.le_of_ble_eq_true rfl⟩ ?_
  refine v_getx rfl rfl (h1) ?_
  refine v_iflt rfl (fun h => absurd h (by omega)) (fun _ => ?_)
  refine v_load rfl rfl ⟨rfl, Nat.le_of_ble_eq_true rfl⟩ ?_
  refine v_getx rfl rfl (h1) ?_
  refine v_push rfl ?_
  refine v_ilt rfl (fun _ => ?_) (fun h => absurd h (by omega))
  refine v_load rfl rfl ⟨rfl, Nat.le_of_ble_eq_true rfl⟩ ?_
  refine v_getp rfl rfl rfl ?_
  refine v_load rfl rfl ⟨rfl, Nat.le_of_ble_eq_true rfl⟩ ?_
  refine v_getx rfl rfl (h1) ?_
  refine v_load rfl rfl ⟨rfl, Nat.le_of_ble_eq_true rfl⟩ ?_
  refine v_ast9 rfl rfl (by decide) ⟨by omega, by show _ < (1216 : Int); omega⟩ ?_
  refine v_load rfl rfl ⟨rfl, Nat.le_of_ble_eq_true rfl⟩ ?_
  refine v_getp rfl rfl rfl ?_
  refine v_load rfl rfl ⟨rfl, Nat.le_of_ble_eq_true rfl⟩ ?_
  refine v_getx rfl rfl (show _ = h by simp (disch := decide) only [u_n1, h1]) ?_
  refine v_load rfl rfl ⟨rfl, Nat.le_of_ble_eq_true rfl⟩ ?_
  refine v_getx rfl rfl (show _ = a by simp (disch := decide) only [u_n1, h2]) ?_
  refine v_ast9 rfl rfl (by decide) ⟨by omega, by show _ < (1216 : Int); omega⟩ ?_
  refine v_load rfl rfl ⟨rfl, Nat.le_of_ble_eq_true rfl⟩ ?_
  refine v_dup rfl (Or.inr rfl) ?_
  refine v_getx rfl rfl (show _ = a by simp (disch := decide) only [u_n1, h2]) ?_
  refine v_load rfl rfl ⟨rfl, Nat.le_of_ble_eq_true rfl⟩ ?_
  refine v_add rfl (by omega) ?_
  refine v_puti rfl rfl rfl ?_
  refine v_load rfl rfl ⟨rfl, Nat.le_of_ble_eq_true rfl⟩ ?_
  refine v_getp rfl rfl rfl ?_
  refine v_load rfl rfl ⟨rfl, Nat.le_of_ble_eq_true rfl⟩ ?_
  refine v_getx rfl rfl (show _ = h by simp (disch := decide) only [u_n1, u_n2, h1]) ?_
  refine v_load rfl rfl ⟨rfl, Nat.le_of_ble_eq_true rfl⟩ ?_
  refine v_getx rfl rfl (show _ = a + 0 by simp (disch := decide) only [u_n1, u_eq]) ?_
  refine v_ast9 rfl rfl (by decide) ⟨by omega, by show _ < (1216 : Int); omega⟩ ?_
  refine v_load rfl rfl ⟨rfl, Nat.le_of_ble_eq_true rfl⟩ ?_
  refine v_getp rfl rfl rfl ?_
  refine v_load rfl rfl ⟨rfl, Nat.le_of_ble_eq_true rfl⟩ ?_
  refine v_getx rfl rfl (show _ = h by simp (disch := decide) only [u_n1, u_n2, h1]) ?_
  refine v_load rfl rfl ⟨rfl, Nat.le_of_ble_eq_true rfl⟩ ?_
  refine v_ast9 rfl rfl (by decide) ⟨by omega, by show _ < (1216 : Int); omega⟩ ?_
  refine v_load rfl rfl ⟨rfl, Nat.le_of_ble_eq_true rfl⟩ ?_
  refine v_getp rfl rfl rfl ?_
  refine v_load rfl rfl ⟨rfl, Nat.le_of_ble_eq_true rfl⟩ ?_
  refine v_getx rfl rfl (show _ = h by simp (disch := decide) only [u_n1, u_n2, h1]) ?_
  refine v_push rfl ?_
  refine v_ast9 rfl rfl (by decide) ⟨by omega, by show _ < (1216 : Int); omega⟩ ?_
  refine v_load rfl rfl ⟨rfl, Nat.le_of_ble_eq_true rfl⟩ ?_
  refine v_getp rfl rfl rfl ?_
  refine v_load rfl rfl ⟨rfl, Nat.le_of_ble_eq_true rfl⟩ ?_
  refine v_getx rfl rfl (show _ = h by simp (disch := decide) only [u_n1, u_n2, h1]) ?_
  refine v_push rfl ?_
  refine v_ast9 rfl rfl (by decide) ⟨by omega, by show _ < (1216 : Int); omega⟩ ?_
  refine v_load rfl rfl ⟨rfl, Nat.le_of_ble_eq_true rfl⟩ ?_
  refine v_getp rfl rfl rfl ?_
  refine v_load rfl rfl ⟨rfl, Nat.le_of_ble_eq_true rfl⟩ ?_
  refine v_getx rfl rfl (show _ = h by simp (disch := decide) only [u_n1, u_n2, h1]) ?_
  refine v_push rfl ?_
  refine v_ast9 rfl rfl (by decide) ⟨by omega, by show _ < (1216 : Int); omega⟩ ?_
  refine v_load rfl rfl ⟨rfl, Nat.le_of_ble_eq_true rfl⟩ ?_
  refine v_getp rfl rfl rfl ?_
  refine v_load rfl rfl ⟨rfl, Nat.le_of_ble_eq_true rfl⟩ ?_
  refine v_getx rfl rfl (show _ = h by simp (disch := decide) only [u_n1, u_n2, h1]) ?_
  refine v_push rfl ?_
  refine v_ast9 rfl rfl (by decide) ⟨by omega, by show _ < (1216 : Int); omega⟩ ?_
  refine v_load rfl rfl ⟨rfl, Nat.le_of_ble_eq_true rfl⟩ ?_
  refine v_dup rfl (Or.inr rfl) ?_
  refine v_getx rfl rfl (show _ = h by simp (disch := decide) only [u_n1, u_n2, h1]) ?_
  refine v_push rfl ?_
  refine v_add rfl (by omega) ?_
  refine v_puti rfl rfl rfl ?_
  refine v_load rfl rfl ⟨rfl, Nat.le_of_ble_eq_true rfl⟩ ?_
  refine v_getx rfl rfl (show _ = h + 1 by simp (disch := decide) only [u_eq]) ?_
  refine v_push rfl ?_
  refine v_sub rfl (by omega) ?_
  refine v_ret rfl rfl ?_
  rw [show h + 1 - 1 = h by omega]
  have hF : FR h M (z_upd (z_upd (z_upd (z_upd (z_upd (z_upd (z_upd (z_upd (z_upd (z_upd M 53 h so) 54 h a) 52 12 (a + 0)) 55 h (a + 0)) 56 h sg) 57 h (-1)) 58 h (-1)) 59 h (-1)) 60 h (-1)) 52 11 (h + 1)) := by
    intro b j hb hj
    by_cases e : 53 ≤ b ∧ b ≤ 60
    · have := hj e
      simp (disch := omega) only [u_n2, u_n1]
    · simp (disch := omega) only [u_n1]
  refine k _ ⟨u_eq, ?_, FR_RT hF hR, by omega, by omega, by omega, by omega⟩ ⟨⟨q1, ?_, ?_, ?_, ?_, ?_, trivial, fun _ hk => absurd hk List.not_mem_nil, by simp [ids], ?_⟩, ?_, hF⟩ ?_
  · simp (disch := decide) only [u_n1, u_n2, u_eq, Int.add_zero]
  · simp (disch := decide) only [u_n1, u_n2, u_eq]
  · simp (disch := decide) only [u_n1, u_n2, u_eq]
  · simp (disch := decide) only [u_n1, u_n2, u_eq]
  · simp (disch := decide) only [u_n1, u_n2, u_eq, hd1]
  · simp (disch := decide) only [u_n1, u_n2, u_eq, lst]
  · simp (disch := decide) only [u_n1, u_n2, u_eq]
  · intro i hi
    have := List.mem_singleton.mp hi
    omega
  · simp (disch := decide) only [u_n1, u_n2, u_eq]
/-- the first child: nothing else has changed -/
theorem S_hang0 {x so fr sg y : Int} {τ : List zN} {I : List Int} (ho1 : op M x so fr sg []) (ht : tr M y τ I) (hnd : (x :: I).Nodup) (hx : x < h) (hy : y < h) (hP : PS T h a M) (k : ∀ M', PS T h a M' → op M' x so fr sg [(y, τ, I)] → z_oR 52 61 M M' → M' 57 x = M 57 x → Q none M') : v_call L (d + 1) 55 [(2, 52), (0, x), (0, y)] M Q := by
  have hx0 := ho1.1
  have hy0 := (tr_mem ht).2.1
  have hP' := hP
  obtain ⟨p1, p2, hRT, q1, q2, q3, q4⟩ := hP
  have e59 := ho1.2.2.2.2.2.1
  have hxy : x ≠ y := fun e => (List.nodup_cons.mp hnd).1 (e ▸ (tr_mem ht).1)
  refine v_in ?_
  refine v_load rfl rfl ⟨rfl, Nat.le_of_ble_eq_true rfl⟩ ?_
  refine v_load rfl rfl ⟨rfl, Nat.le_of_ble_eq_true rfl⟩ ?_
  refine v_callr rfl ⟨Nat.le_of_ble_eq_true rfl, Nat.le_of_ble_eq_true rfl, rfl, Nat.le_of_ble_eq_true rfl, rfl⟩ ?_
  refine S_held hP' (by omega) ?_
  refine v_ifeq rfl (fun h => absurd h (by omega)) (fun _ => ?_)
  refine v_load rfl rfl ⟨rfl, Nat.le_of_ble_eq_true rfl⟩ ?_
  refine v_load rfl rfl ⟨rfl, Nat.le_of_ble_eq_true rfl⟩ ?_
  refine v_callr rfl ⟨Nat.le_of_ble_eq_true rfl, Nat.le_of_ble_eq_true rfl, rfl, Nat.le_of_ble_eq_true rfl, rfl⟩ ?_
  refine S_held hP' (by omega) ?_
  refine v_ifne rfl (fun _ => ?_) (fun h => absurd h (by omega))
  refine v_load rfl rfl ⟨rfl, Nat.le_of_ble_eq_true rfl⟩ ?_
  refine v_getp rfl rfl rfl ?_
  refine v_load rfl rfl ⟨rfl, Nat.le_of_ble_eq_true rfl⟩ ?_
  refine v_ald9 rfl rfl ⟨by omega, by show _ < (1216 : Int); omega⟩ ?_
  refine v_store rfl ⟨rfl, Nat.le_of_ble_eq_true rfl, Nat.le_of_ble_eq_true rfl, rfl⟩ rfl ?_
  rw [e59]
  refine v_load rfl rfl ⟨rfl, Nat.le_of_ble_eq_true rfl⟩ ?_
  refine v_load rfl rfl ⟨rfl, Nat.le_of_ble_eq_true rfl⟩ ?_
  refine v_callr rfl ⟨Nat.le_of_ble_eq_true rfl, Nat.le_of_ble_eq_true rfl, rfl, Nat.le_of_ble_eq_true rfl, rfl⟩ ?_
  refine S_heldN hP' (by show ¬ (0 ≤ (-1 : Int) ∧ _); omega) ?_
  refine v_ifeq rfl (fun _ => ?_) (fun h => absurd h (by omega))
  refine v_load rfl rfl ⟨rfl, Nat.le_of_ble_eq_true rfl⟩ ?_
  refine v_getp rfl rfl rfl ?_
  refine v_load rfl rfl ⟨rfl, Nat.le_of_ble_eq_true rfl⟩ ?_
  refine v_load rfl rfl ⟨rfl, Nat.le_of_ble_eq_true rfl⟩ ?_
  refine v_ast9 rfl rfl (by decide) ⟨by omega, by show _ < (1216 : Int); omega⟩ ?_
  refine v_load rfl rfl ⟨rfl, Nat.le_of_ble_eq_true rfl⟩ ?_
  refine v_getp rfl rfl rfl ?_
  refine v_load rfl rfl ⟨rfl, Nat.le_of_ble_eq_true rfl⟩ ?_
  refine v_load rfl rfl ⟨rfl, Nat.le_of_ble_eq_true rfl⟩ ?_
  refine v_ast9 rfl rfl (by decide) ⟨by omega, by show _ < (1216 : Int); omega⟩ ?_
  refine v_load rfl rfl ⟨rfl, Nat.le_of_ble_eq_true rfl⟩ ?_
  refine v_getp rfl rfl rfl ?_
  refine v_load rfl rfl ⟨rfl, Nat.le_of_ble_eq_true rfl⟩ ?_
  refine v_load rfl rfl ⟨rfl, Nat.le_of_ble_eq_true rfl⟩ ?_
  refine v_ast9 rfl rfl (by decide) ⟨by omega, by show _ < (1216 : Int); omega⟩ ?_
  refine v_load rfl rfl ⟨rfl, Nat.le_of_ble_eq_true rfl⟩ ?_
  refine v_getp rfl rfl rfl ?_
  refine v_load rfl rfl ⟨rfl, Nat.le_of_ble_eq_true rfl⟩ ?_
  refine v_push rfl ?_
  refine v_ast9 rfl rfl (by decide) ⟨by omega, by show _ < (1216 : Int); omega⟩ ?_
  refine v_ret rfl rfl ?_
  have hO : z_oR 52 61 M (z_upd (z_upd (z_upd (z_upd M 58 x y) 59 x y) 57 y x) 60 y (-1)) := fun b j hb => by simp (disch := omega) only [u_n1]
  refine k _ ⟨by simp (disch := decide) only [u_n1]; exact p1, by simp (disch := decide) only [u_n1]; exact p2, RT_oR hRT hO (by decide), q1, q2, q3, q4⟩ (op_hang ho1 ht hnd ?_ ?_ ?_ ?_ (fun e => absurd rfl e) ?_ ?_ ?_ ?_) hO ?_
  · rw [if_pos rfl]; simp (disch := decide) only [u_n1, u_n2, u_eq]
  · simp (disch := decide) only [u_n1, u_n2, u_eq]
  · simp (disch := decide) only [u_n1, u_n2, u_eq]
  · simp (disch := decide) only [u_n1, u_n2, u_eq]
  · intro b j _ _ _ _ _ _; simp (disch := assumption) only [u_n1]
  · intro j hj; simp (disch := first | decide | assumption) only [u_n1, u_n2]
  · intro j hj; simp (disch := first | decide | assumption) only [u_n1, u_n2]
  · intro j hj _; simp (disch := first | decide | assumption) only [u_n1, u_n2]
  · simp (disch := first | decide | assumption) only [u_n1, u_n2]
theorem S_finish {q : zQ} {cs : List (List zN)} (hw : wfF cs) (hq : q.2.2.1 = (cs.length : Int) ∧ q.2.2.2.1 = (cs.flatten.length : Int) + 1) (hl : cs.flatten.length ≤ 1215) (hR : RN ((q :: lay 0 2 1 cs.flatten).map q0) M) (k : ∀ M', RN (q :: lay 0 2 1 cs.flatten) M' → z_oR 42 51 M M' → (∀ j, 0 ≤ j → j < 300 → M' 51 j = lfF (q :: lay 0 2 1 cs.flatten) (q :: lay 0 2 1 cs.flatten).length (M 51 j) j) → Q none M') : v_call L (d + 3) 111 [(2, 42)] M Q := by
  have h1 := hR.1
  have ll := lay_len hw 0 2 1
  have lN : ((q :: lay 0 2 1 cs.flatten).map q0).length = cs.flatten.length + 1 := by rw [List.length_map, List.length_cons, ll]
  rw [lN] at h1
  have hwl := wf_len hw
  refine v_in ?_
  refine v_load rfl rfl ⟨rfl, Nat.le_of_ble_eq_true rfl⟩ ?_
  refine v_getx rfl rfl (h1) ?_
  refine v_push rfl ?_
  refine v_sub rfl (by omega) ?_
  refine v_store rfl ⟨rfl, Nat.le_of_ble_eq_true rfl, Nat.le_of_ble_eq_true rfl, rfl⟩ rfl ?_
  have := fin_fo (L := L) (d := d) (Q := Q) hw M [q0 q] [] 0 2 (9, 0) (Nat.lt_succ_self 0) (by rw [List.append_nil]; exact hR) (by show (0 : Int) ≤ 0; decide) (by show (0 : Int) + _ ≤ 5000; omega) (by show (0 : Int) ≤ 1; decide) (by show (1 : Int) + _ ≤ 5000; omega) ?_
  · rw [show ((([q0 q] : List zQ).length + cs.flatten.length : Nat) : Int) - 1 = ((cs.flatten.length + 1 : Nat) : Int) - 1 by simp; omega] at this
    exact this
  · intro M' w' hR' ho
    have e : bmp [q0 q] 0 (cs.flatten.length : Int) (cs.length : Int) = [q] := by
      show [(q.1, q.2.1, 0 + (cs.length : Int), 1 + (cs.flatten.length : Int), q.2.2.2.2)] = [q]
      rw [Int.zero_add, Int.add_comm, ← hq.1, ← hq.2]
    rw [e, List.append_nil] at hR'
    refine v_load rfl rfl ⟨rfl, Nat.le_of_ble_eq_true rfl⟩ ?_
    refine v_ifle rfl (fun _ => ?_) (fun h => absurd h (by show ¬ 0 < (1 : Int) - 1; decide))
    refine v_push rfl ?_
    refine v_store rfl ⟨rfl, Nat.le_of_ble_eq_true rfl, Nat.le_of_ble_eq_true rfl, rfl⟩ rfl ?_
    refine fin_leaf M' (fun M2 hR2 ho2 hl2 => ?_) _ 0 M' _ rfl (Nat.zero_le _) hR' z_oR_rf (fun j _ _ => rfl)
    refine k M2 hR2 (z_oR_tr (z_oR_w ho (by decide) (by decide)) (z_oR_w ho2 (by decide) (by decide))) (fun j j1 j2 => ?_)
    rw [hl2 j j1 j2, ho 51 j (by omega)]
    rfl
end PA
