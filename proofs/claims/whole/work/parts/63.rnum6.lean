theorem lay_up {ts : List (List zN)} (h : wfF ts) : ∀ (p dp base : Int), 0 ≤ p → p < base → ∀ i : Nat, i < ts.flatten.length → 0 ≤ ((lay p dp base ts.flatten).getD i n0).2.1 ∧ ((lay p dp base ts.flatten).getD i n0).2.1 < base + (i : Int) := by
  refine wf_ind (C := fun ts => ∀ (p dp base : Int), 0 ≤ p → p < base → ∀ i : Nat, i < ts.flatten.length → 0 ≤ ((lay p dp base ts.flatten).getD i n0).2.1 ∧ ((lay p dp base ts.flatten).getD i n0).2.1 < base + (i : Int)) h (fun p dp base _ _ i hi => absurd hi (Nat.not_lt_zero _)) ?_
  intro so fr up sg cs ts hwc hwt i1 i2 p dp base h0 h1 i hi
  have ll := lay_len hwc base (dp + 1) (base + 1)
  have hfl : ((mkN so fr up sg cs :: ts).flatten).length = cs.flatten.length + ts.flatten.length + 1 := by rw [List.flatten_cons, List.length_append, mkN_len]; omega
  rw [hfl] at hi
  rw [lay_cons]
  cases i with
  | zero => rw [List.getD_cons_zero]; exact ⟨h0, by show p < base + 0; omega⟩
  | succ i =>
    rw [List.getD_cons_succ]
    by_cases hic : i < cs.flatten.length
    · rw [qd_app1 (by omega)]
      have := i1 base (dp + 1) (base + 1) (by omega) (by omega) i hic
      omega
    · rw [qd_app2 (by omega), ll]
      have := i2 p dp (base + 1 + (cs.flatten.length : Int)) h0 (by omega) (i - cs.flatten.length) (by omega)
      omega
theorem NT_up {T : List zT} (hT : tkOK T) {i : Nat} (hi : i < (NT T).length) : (i = 0 ∧ ((NT T).getD i n0).2.1 = -1) ∨ (0 < i ∧ 0 ≤ ((NT T).getD i n0).2.1 ∧ ((NT T).getD i n0).2.1 < (i : Int)) := by
  have hl := (NT_len hT).1
  rw [NT_eq]
  cases i with
  | zero => exact Or.inl ⟨rfl, rfl⟩
  | succ i =>
    rw [List.getD_cons_succ]
    have := lay_up (cv_wf (top_cv hT).1) 0 2 1 (by decide) (by decide) i (by omega)
    exact Or.inr ⟨by omega, this.1, by omega⟩
theorem nxq_iff {T : List zT} (hT : tkOK T) {i : Nat} (hi : i < (NT T).length) : (CND (NT T) i → nxq (NT T) (i : Int) = (i : Int) + ((NT T).getD i n0).2.2.2.1) ∧ (¬ CND (NT T) i → nxq (NT T) (i : Int) = -1) := by
  unfold nxq
  have e : nd (NT T) (i : Int) = (NT T).getD i n0 := nd_nat hi
  rw [e]
  have hup := NT_up hT hi
  have e2 : ((NT T).getD i n0).2.1 ≠ -1 → nd (NT T) ((NT T).getD i n0).2.1 = (NT T).getD ((NT T).getD i n0).2.1.toNat n0 := fun z => nd_in (by rcases hup with y | y <;> omega)
  refine ⟨fun c => ?_, fun c => ?_⟩
  · rw [if_pos ⟨c.1, by rw [e2 c.1]; exact c.2⟩]
  · rw [if_neg (fun z => c ⟨z.1, by rw [← e2 z.1]; exact z.2⟩)]
theorem qd_map {f : zQ → zQ} {N : List zQ} {i : Nat} (h : i < N.length) : (N.map f).getD i n0 = f (N.getD i n0) := by
  rw [List.getD_eq_getElem?_getD, List.getD_eq_getElem?_getD, List.getElem?_map, List.getElem?_eq_getElem h]
  rfl
section RNY
variable {L d : Nat} {Q : Option zV → zM → Prop} {V M1 : zM} {H : Int}
theorem sib_loop {w : zV} (hg : GV V M1 H) (hH : H ≤ 1216) (h19 : M1 77 19 = H) (hinj : ∀ m m', 0 ≤ m ∧ m < H → 0 ≤ m' ∧ m' < H → M1 110 m = M1 110 m' → m = m') (hrg : ∀ m, 0 ≤ m ∧ m < H → 0 ≤ M1 110 m ∧ M1 110 m < 1216) (hv : ∀ m, 0 ≤ m ∧ m < H → V 60 m = -1 ∨ (0 ≤ V 60 m ∧ V 60 m < H))
    (k : ∀ M', (∀ b j, b ≠ 104 → M' b j = M1 b j) → (∀ m, 0 ≤ m ∧ m < H → M' 104 (M1 110 m) = if V 60 m ≠ -1 then M1 110 (V 60 m) else M1 104 (M1 110 m)) → v_wp L d 218 74 [(2, 77), (0, H), w] [] M' Q) :
    ∀ (n : Nat) (m : Int) (M : zM), n = (H - m).toNat → 0 ≤ m → m ≤ H → (∀ b j, b ≠ 104 → M b j = M1 b j) → (∀ m', 0 ≤ m' ∧ m' < H → M 104 (M1 110 m') = if m' < m ∧ V 60 m' ≠ -1 then M1 110 (V 60 m') else M1 104 (M1 110 m')) → v_wp L d 218 28 [(2, 77), (0, m), w] [] M Q := by
  intro n
  induction n with
  | zero =>
    intro m M hn h0 h1 ho hs
    have em : m = H := by omega
    subst em
    have p19 : M 77 19 = m := (ho 77 19 (by decide)).trans h19
    refine v_load rfl rfl ⟨rfl, Nat.le_of_ble_eq_true rfl⟩ ?_
    refine v_load rfl rfl ⟨rfl, Nat.le_of_ble_eq_true rfl⟩ ?_
    refine v_getx rfl rfl (p19) ?_
    refine v_ige rfl (fun _ => ?_) (fun h => absurd h (by omega))
    refine k M ho (fun m' hm' => ?_)
    rw [hs m' hm']
    by_cases e : V 60 m' = -1
    · rw [if_neg (fun z => z.2 e), if_neg (fun z => z e)]
    · rw [if_pos ⟨hm'.2, e⟩, if_pos e]
  | succ n ih =>
    intro m M hn h0 h1 ho hs
    have p19 : M 77 19 = H := (ho 77 19 (by decide)).trans h19
    have hm : 0 ≤ m ∧ m < H := ⟨h0, by omega⟩
    have g91 : M 91 m = V 60 m := by rw [ho 91 m (by decide)]; exact (hg m hm.1 hm.2).2.2.2.2.2.2.1
    have g110 : ∀ j, M 110 j = M1 110 j := fun j => ho 110 j (by decide)
    have hr := hrg m hm
    by_cases e : V 60 m = -1
    · refine v_load rfl rfl ⟨rfl, Nat.le_of_ble_eq_true rfl⟩ ?_
      refine v_load rfl rfl ⟨rfl, Nat.le_of_ble_eq_true rfl⟩ ?_
      refine v_getx rfl rfl (p19) ?_
      refine v_ige rfl (fun h => absurd h (by omega)) (fun _ => ?_)
      refine v_load rfl rfl ⟨rfl, Nat.le_of_ble_eq_true rfl⟩ ?_
      refine v_getp rfl rfl rfl ?_
      refine v_load rfl rfl ⟨rfl, Nat.le_of_ble_eq_true rfl⟩ ?_
      refine v_ald9 rfl rfl ⟨by omega, by show _ < (1600 : Int); omega⟩ ?_
      refine v_push rfl ?_
      refine v_ieq rfl (fun _ => ?_) (fun h => absurd h (by omega))
      refine v_iinc rfl rfl rfl (by omega) rfl ?_
      refine v_goto rfl ?_
      refine ih (m + 1) M (by omega) (by omega) (by omega) ho (fun m' hm' => ?_)
      rw [hs m' hm']
      by_cases c : m' < m ∧ V 60 m' ≠ -1
      · rw [if_pos c, if_pos ⟨by omega, c.2⟩]
      · rw [if_neg c, if_neg (fun z => c ⟨by
          by_cases y : m' = m
          · subst y; exact absurd e z.2
          · omega, z.2⟩)]
    · have hve := (hv m hm).resolve_left e
      have hr2 := hrg _ hve
      refine v_load rfl rfl ⟨rfl, Nat.le_of_ble_eq_true rfl⟩ ?_
      refine v_load rfl rfl ⟨rfl, Nat.le_of_ble_eq_true rfl⟩ ?_
      refine v_getx rfl rfl (p19) ?_
      refine v_ige rfl (fun h => absurd h (by omega)) (fun _ => ?_)
      refine v_load rfl rfl ⟨rfl, Nat.le_of_ble_eq_true rfl⟩ ?_
      refine v_getp rfl rfl rfl ?_
      refine v_load rfl rfl ⟨rfl, Nat.le_of_ble_eq_true rfl⟩ ?_
      refine v_ald9 rfl rfl ⟨by omega, by show _ < (1600 : Int); omega⟩ ?_
      refine v_push rfl ?_
      refine v_ieq rfl (fun h => absurd h (by omega)) (fun _ => ?_)
      refine v_load rfl rfl ⟨rfl, Nat.le_of_ble_eq_true rfl⟩ ?_
      refine v_getp rfl rfl rfl ?_
      refine v_load rfl rfl ⟨rfl, Nat.le_of_ble_eq_true rfl⟩ ?_
      refine v_getp rfl rfl rfl ?_
      refine v_load rfl rfl ⟨rfl, Nat.le_of_ble_eq_true rfl⟩ ?_
      refine v_ald9 rfl rfl ⟨by omega, by show _ < (1600 : Int); omega⟩ ?_
      rw [g110]
      refine v_load rfl rfl ⟨rfl, Nat.le_of_ble_eq_true rfl⟩ ?_
      refine v_getp rfl rfl rfl ?_
      refine v_load rfl rfl ⟨rfl, Nat.le_of_ble_eq_true rfl⟩ ?_
      refine v_getp rfl rfl rfl ?_
      refine v_load rfl rfl ⟨rfl, Nat.le_of_ble_eq_true rfl⟩ ?_
      refine v_ald9 rfl rfl ⟨by omega, by show _ < (1600 : Int); omega⟩ ?_
      rw [g91]
      refine v_ald9 rfl rfl ⟨by omega, by show _ < (1600 : Int); omega⟩ ?_
      rw [g110]
      refine v_ast9 rfl rfl (by decide) ⟨by omega, by show _ < (1600 : Int); omega⟩ ?_
      refine v_iinc rfl rfl rfl (by omega) rfl ?_
      refine v_goto rfl ?_
      refine ih (m + 1) _ (by omega) (by omega) (by omega) (fun b j hb => by rw [u_n1 hb]; exact ho b j hb) (fun m' hm' => ?_)
      by_cases y : m' = m
      · subst y
        rw [u_eq, if_pos ⟨by omega, e⟩]
      · rw [u_n2 (fun z => y (hinj _ _ hm' hm z)), hs m' hm']
        by_cases c : m' < m ∧ V 60 m' ≠ -1
        · rw [if_pos c, if_pos ⟨by omega, c.2⟩]
        · rw [if_neg c, if_neg (fun z => c ⟨by omega, z.2⟩)]
theorem R_numbers {M : zM} {t : List Int} {I : List Int} (hl3 : (toks t).length ≤ 300) (h19 : M 77 19 = ((topN (toks t)).length : Int)) (hg : GV V M ((topN (toks t)).length : Int)) (ht : tr V 0 (topN (toks t)) I) (hI : ∀ i ∈ I, i < ((topN (toks t)).length : Int)) (v57 : V 57 0 = -1) (v60 : V 60 0 = -1) (k : ∀ M', TM (toks t) M' → LQr M M' → Q none M') : v_call L (d + 1) 218 [(2, 77)] M Q := by
  have hT := tkOK_toks t
  generalize toks t = T at *
  obtain ⟨tcv, twf⟩ := top_cv hT
  have hlen := NT_len hT
  have htl : (topN T).length = (bal (itemsOf T)).flatten.length + 1 := mkN_len
  have hNl : (NT T).length = (topN T).length := by rw [hlen.1, htl]
  obtain ⟨so, fr, up, sg, cs, Ic, x0, e1, e2, e3, e4, hc, eτ, eI, hnd⟩ := id ht
  have hf : fo V (-1) 0 [topN T] (0 :: (Ic ++ [])) := by
    rw [eτ]
    exact fo_cons x0 e1 e2 e3 e4 v57 (by rw [eI] at hnd; exact (List.nodup_cons.mp hnd).1) hc (by rw [v60]; exact fo_nil)
  rw [List.append_nil, ← eI] at hf
  have hIl := fo_len hf
  have hfl1 : ([topN T].flatten).length = (topN T).length := by simp
  rw [hfl1] at hIl
  have hIpos : ∀ i ∈ I, 0 ≤ i := fun i hi => fo_pos hf i hi
  have hbd : ∀ ν ∈ [topN T].flatten, isLf ν.1 = true → 0 ≤ ν.2.2.2.1 ∧ ν.2.2.2.1 < 300 := by
    intro ν hν hlf
    have hν : ν ∈ topN T := by simpa using hν
    rcases List.mem_cons.mp hν with rfl | hν
    · exact absurd hlf (by show ¬ isLf 0 = true; decide)
    · have b := cv_bd tcv ν hν
      have c := (cv_lf tcv ν hν).mp hlf
      omega
  have hq0 : LQr M (z_upd M 77 44 0) := fun b j h1 h2 => by
    have h3 : ¬ (b = 77 ∧ j = 44) := fun z => h2 z.1 z.2
    simp only [z_upd]
    rw [if_neg h3]
  have hg0 := GV_LQr hg hq0
  refine v_in ?_
  refine v_load rfl rfl ⟨rfl, Nat.le_of_ble_eq_true rfl⟩ ?_
  refine v_push rfl ?_
  refine v_puti rfl rfl rfl ?_
  refine v_push rfl ?_
  refine v_store rfl ⟨rfl, Nat.le_of_ble_eq_true rfl, Nat.le_of_ble_eq_true rfl, rfl⟩ rfl ?_
  refine num_fo (w := (9, 0)) hg0 (by omega) hf (by simp) (by rw [eI] at hnd ⊢; exact hnd) (fun z => by have := hIpos _ z; omega) hI (by omega) hbd _ [] (-1) 1 0 (-1) LQr_rf ⟨u_eq, Nat.zero_le _, fun i hi => absurd hi (Nat.not_lt_zero _)⟩ (Or.inl ⟨rfl, rfl, rfl⟩) (by decide) (by simp only [List.length_nil]; omega) ⟨rfl, rfl⟩ (fun j => rfl) (fun M1 q1 r1 _ nb l1 => ?_)
  have r1 : RA0 (NT T) M1 := r1
  have nb : ∀ i : Nat, i < I.length → M1 110 (I.getD i 0) = (i : Int) := fun i hi => by have := nb i hi; simpa using this
  have g1 := GV_LQr hg0 q1
  have p19 : M1 77 19 = ((topN T).length : Int) := by rw [q1 77 19 (by decide) (fun _ => by decide), u_n2 (by decide)]; exact h19
  have hmem : ∀ i : Nat, i < I.length → I.getD i 0 ∈ I := fun i hi => by rw [List.getD_eq_getElem?_getD, List.getElem?_eq_getElem hi]; exact List.getElem_mem hi
  have hall : ∀ m, 0 ≤ m ∧ m < ((topN T).length : Int) → ∃ i : Nat, i < I.length ∧ I.getD i 0 = m := by
    intro m hm
    have hin := pig_all hnd (fun i hi => ⟨hIpos i hi, hI i hi⟩) hIl hm
    obtain ⟨i, hi, e⟩ := List.getElem_of_mem hin
    exact ⟨i, hi, by rw [List.getD_eq_getElem?_getD, List.getElem?_eq_getElem hi, ← e]; rfl⟩
  -- next ones
  have hsib : ∀ i : Nat, i < I.length → (V 60 (I.getD i 0) = -1 ∧ ¬ CND (NT T) i) ∨ (CND (NT T) i ∧ ∃ j, j < I.length ∧ V 60 (I.getD i 0) = I.getD j 0 ∧ (j : Int) = (i : Int) + ((NT T).getD i n0).2.2.2.1) := by
    intro i hi
    have hIc : I = 0 :: Ic := eI
    have hcsf : NT T = (so, -1, (cs.length : Int), (cs.flatten.length : Int) + 1, 1, fr, up - fr, sg) :: lay 0 2 1 cs.flatten := by
      show lay (-1) 1 0 [topN T].flatten = _
      rw [eτ, lay_cons, show ([] : List (List zN)).flatten = [] from rfl, lay_nil, List.append_nil]
      rfl
    cases i with
    | zero =>
      left
      rw [hIc, List.getD_cons_zero]
      refine ⟨v60, fun z => z.1 ?_⟩
      rw [hcsf]
      rfl
    | succ i =>
      have hi' : i < Ic.length := by rw [hIc] at hi; simpa using hi
      have := sib_fo hc (NT T) 1 0 2 (fun j hj => by rw [hcsf, show 1 + j = j + 1 by omega, List.getD_cons_succ]; rfl) (by rw [hcsf]; show (0 : Int) + ((cs.flatten.length : Int) + 1) = 1 + (cs.flatten.length : Int); omega) i hi'
      rw [show 1 + i = i + 1 by omega] at this
      rw [hIc, List.getD_cons_succ]
      rcases this with z | ⟨z1, j, z2, z3, z4⟩
      · exact Or.inl z
      · exact Or.inr ⟨z1, j + 1, by simpa using z2, by rw [List.getD_cons_succ]; exact z3, by omega⟩
  have hv : ∀ m, 0 ≤ m ∧ m < ((topN T).length : Int) → V 60 m = -1 ∨ (0 ≤ V 60 m ∧ V 60 m < ((topN T).length : Int)) := by
    intro m hm
    obtain ⟨i, hi, rfl⟩ := hall m hm
    rcases hsib i hi with z | ⟨-, j, hj, z, -⟩
    · exact Or.inl z.1
    · rw [z]; exact Or.inr ⟨hIpos _ (hmem j hj), hI _ (hmem j hj)⟩
  refine v_load rfl rfl ⟨rfl, Nat.le_of_ble_eq_true rfl⟩ ?_
  refine v_push rfl ?_
  refine v_ieq rfl (fun _ => ?_) (fun h => absurd h (fun z => z rfl))
  refine v_push rfl ?_
  refine v_store rfl ⟨rfl, Nat.le_of_ble_eq_true rfl, Nat.le_of_ble_eq_true rfl, rfl⟩ rfl ?_
  refine sib_loop g1 (by omega) p19 (fun m m' hm hm' e => ?_) (fun m hm => ?_) hv (fun M2 o2 s2 => ?_) _ 0 M1 rfl (by decide) (by omega) (fun _ _ _ => rfl) (fun m' hm' => by rw [if_neg (fun z => by omega)])
  · obtain ⟨i, hi, rfl⟩ := hall m hm
    obtain ⟨j, hj, rfl⟩ := hall m' hm'
    rw [nb i hi, nb j hj] at e
    rw [show i = j by omega]
  · obtain ⟨i, hi, rfl⟩ := hall m hm
    rw [nb i hi]; omega
  · have h2 : RM ((NT T).map p0) M2 := by
      have hl2 : ((NT T).map p0).length = (NT T).length := List.length_map ..
      refine ⟨by rw [o2 77 44 (by decide), hl2]; exact r1.1, by rw [hl2]; exact r1.2.1, fun i hi => ?_⟩
      rw [hl2] at hi
      obtain ⟨a1, a2, a3, a4, a5, a6, a7, a8, a9, a10⟩ := r1.2.2 i hi
      rw [qd_map hi, o2 100 _ (by decide), o2 101 _ (by decide), o2 102 _ (by decide), o2 103 _ (by decide), o2 105 _ (by decide), o2 106 _ (by decide), o2 107 _ (by decide), o2 108 _ (by decide)]
      exact ⟨a1, a2, a4, a8, a3, a6, a7, a9⟩
    have p44 : M2 77 44 = ((NT T).length : Int) := by rw [o2 77 44 (by decide)]; exact r1.1
    refine v_load rfl rfl ⟨rfl, Nat.le_of_ble_eq_true rfl⟩ ?_
    refine v_getx rfl rfl (p44) ?_
    refine v_push rfl ?_
    refine v_sub rfl (by omega) ?_
    refine v_store rfl ⟨rfl, Nat.le_of_ble_eq_true rfl, Nat.le_of_ble_eq_true rfl, rfl⟩ rfl ?_
    have hne := NT_eq T
    generalize hroot : ((0, -1, ((bal (itemsOf T)).length : Int), ((bal (itemsOf T)).flatten.length : Int) + 1, 1, 0, (T.length : Int) - 0, 0) : zQ) = root at hne
    have hA := acc_cv (L := L) (d := d + 1) (Q := Q) tcv (by omega) M2 [p0 root] [] 0 2 (9, 0) (Nat.lt_succ_self 0) (by
      rw [hne] at h2
      simpa using h2) (by show (0 : Int) ≤ 0; decide) (by show (0 : Int) + _ ≤ 5000; omega) (by show (0 : Int) ≤ 1; decide) (by show (1 : Int) + _ ≤ 5000; omega) (by rw [← hroot]; show (0 : Int) ≤ 0; decide) (by rw [← hroot]; show (0 : Int) + _ ≤ 5000; omega)
    rw [show ((([p0 root] : List zQ).length + (bal (itemsOf T)).flatten.length : Nat) : Int) - 1 = ((NT T).length : Int) - 1 by rw [hlen.1]; simp; omega] at hA
    refine hA (fun M3 w3 hR3 ho3 => ?_)
    have e5 : bmq [p0 root] 0 ((bal (itemsOf T)).flatten.length : Int) ((bal (itemsOf T)).length : Int) ((T.length : Int) - 0) 0 = [p1 root] := by
      show [bmx (p0 root) _ _ _ _] = _
      rw [← hroot]
      unfold bmx p0 p1 tkF tkM sgF
      simp [show isLf 0 = false from rfl]
      omega
    rw [e5, List.append_nil, List.singleton_append] at hR3
    have hR4 : RM ((NT T).map p1) M3 := by rw [hne]; exact hR3
    refine v_load rfl rfl ⟨rfl, Nat.le_of_ble_eq_true rfl⟩ ?_
    refine v_ifle rfl (fun _ => ?_) (fun h => absurd h (by show ¬ 0 < (1 : Int) - 1; decide))
    refine v_ret rfl rfl ?_
    refine k M3 ⟨hR4, fun i hi => ⟨?_, fun hn => ?_⟩, fun j j0 j1 => ?_⟩ ?_
    · have hi' : i < I.length := by omega
      rw [ho3 104 _ (by decide) (by decide) (by decide) (by decide)]
      have s3 := s2 (I.getD i 0) ⟨hIpos _ (hmem i hi'), hI _ (hmem i hi')⟩
      rw [nb i hi'] at s3
      rw [s3]
      rcases hsib i hi' with z | ⟨z1, j, z2, z3, z4⟩
      · rw [if_neg (fun y => y z.1), (nxq_iff hT hi).2 z.2]
        exact (r1.2.2 i hi).2.2.2.2.1
      · have hj0 := hIpos _ (hmem j z2)
        rw [if_pos (by rw [z3]; omega), z3, nb j z2, (nxq_iff hT hi).1 z1, z4]
    · rw [ho3 109 _ (by decide) (by decide) (by decide) (by decide), o2 109 _ (by decide)]
      exact (r1.2.2 i hi).2.2.2.2.2.2.2.2.2 hn
    · rw [ho3 111 _ (by decide) (by decide) (by decide) (by decide), o2 111 _ (by decide), l1 j]
      have e6 : ([] : List zQ).length + ([topN T].flatten).length = (NT T).length := by rw [hfl1]; simp; omega
      rw [e6]
      show lfG (NT T) (NT T).length _ j = _
      rw [lfG_lf hT _ _ _ (Nat.le_refl _)]
      exact lfF_dflt _ _ _ (lf_ex hT j0 j1)
    · intro b j h1 h2
      rw [ho3 b j (by omega) (by omega) (by omega) (by omega), o2 b j (by omega), q1 b j h1 h2]
      exact hq0 b j h1 h2
end RNY
