/-- the next one around, in what is thought -/
def NAr (V : zM) (h : Int) : Nat → Int → Int → Prop
  | 0, x, y => x = -1 ∧ y = -1
  | n + 1, x, y => (0 ≤ x ∧ x < h) ∧ ((V 60 x ≠ -1 ∧ y = V 60 x) ∨ (V 60 x = -1 ∧ NAr V h n (V 57 x) y))
section RNV
variable {L d : Nat} {Q : Option zV → zM → Prop} {h : Int} {V M0 : zM}
theorem R_behind_loop {M : zM} {x0 : Int} (hg : GV V M h) (hh : h ≤ 1216) : ∀ (n : Nat) (x y : Int), NAr V h n x y → Q (some (0, y)) M → v_wp L d 217 19 [(2, 77), (0, x0), (0, x)] [] M Q
  | 0, x, y, hN, k => by
    obtain ⟨rfl, rfl⟩ := hN
    refine v_load rfl rfl ⟨rfl, Nat.le_of_ble_eq_true rfl⟩ ?_
    refine v_push rfl ?_
    refine v_ieq rfl (fun _ => ?_) (fun h => absurd h (fun z => z rfl))
    refine v_load rfl rfl ⟨rfl, Nat.le_of_ble_eq_true rfl⟩ ?_
    refine v_push rfl ?_
    refine v_ine rfl (fun h => absurd h (fun z => z rfl)) (fun _ => ?_)
    refine v_push rfl ?_
    refine v_goto rfl ?_
    refine v_ret rfl rfl ?_
    exact k
  | n + 1, x, y, ⟨⟨h0, h1⟩, hN⟩, k => by
    have g := hg x h0 h1
    have g7 := g.2.2.2.2.2.2.1
    have g8 := g.2.2.2.2.2.2.2
    rcases hN with ⟨e1, e2⟩ | ⟨e1, e2⟩
    · refine v_load rfl rfl ⟨rfl, Nat.le_of_ble_eq_true rfl⟩ ?_
      refine v_push rfl ?_
      refine v_ieq rfl (fun h => absurd h (by omega)) (fun _ => ?_)
      refine v_load rfl rfl ⟨rfl, Nat.le_of_ble_eq_true rfl⟩ ?_
      refine v_getp rfl rfl rfl ?_
      refine v_load rfl rfl ⟨rfl, Nat.le_of_ble_eq_true rfl⟩ ?_
      refine v_ald9 rfl rfl ⟨by omega, by show _ < (1600 : Int); omega⟩ ?_
      refine v_push rfl ?_
      refine v_ine rfl (fun _ => ?_) (fun h => absurd h (by omega))
      refine v_load rfl rfl ⟨rfl, Nat.le_of_ble_eq_true rfl⟩ ?_
      refine v_push rfl ?_
      refine v_ine rfl (fun _ => ?_) (fun h => absurd h (by omega))
      refine v_load rfl rfl ⟨rfl, Nat.le_of_ble_eq_true rfl⟩ ?_
      refine v_getp rfl rfl rfl ?_
      refine v_load rfl rfl ⟨rfl, Nat.le_of_ble_eq_true rfl⟩ ?_
      refine v_ald9 rfl rfl ⟨by omega, by show _ < (1600 : Int); omega⟩ ?_
      rw [g7, ← e2]
      refine v_ret rfl rfl ?_
      exact k
    · refine v_load rfl rfl ⟨rfl, Nat.le_of_ble_eq_true rfl⟩ ?_
      refine v_push rfl ?_
      refine v_ieq rfl (fun h => absurd h (by omega)) (fun _ => ?_)
      refine v_load rfl rfl ⟨rfl, Nat.le_of_ble_eq_true rfl⟩ ?_
      refine v_getp rfl rfl rfl ?_
      refine v_load rfl rfl ⟨rfl, Nat.le_of_ble_eq_true rfl⟩ ?_
      refine v_ald9 rfl rfl ⟨by omega, by show _ < (1600 : Int); omega⟩ ?_
      refine v_push rfl ?_
      refine v_ine rfl (fun h => absurd h (by omega)) (fun _ => ?_)
      refine v_load rfl rfl ⟨rfl, Nat.le_of_ble_eq_true rfl⟩ ?_
      refine v_getp rfl rfl rfl ?_
      refine v_load rfl rfl ⟨rfl, Nat.le_of_ble_eq_true rfl⟩ ?_
      refine v_ald9 rfl rfl ⟨by omega, by show _ < (1600 : Int); omega⟩ ?_
      rw [g8]
      refine v_store rfl ⟨rfl, Nat.le_of_ble_eq_true rfl, Nat.le_of_ble_eq_true rfl, rfl⟩ rfl ?_
      refine v_goto rfl ?_
      exact R_behind_loop hg hh n _ y e2 k
theorem R_behind {M : zM} {n : Nat} {x y : Int} (hg : GV V M h) (hh : h ≤ 1216) (hx : 0 ≤ x ∧ x < h) (hc : (V 58 x ≠ -1 ∧ y = V 58 x) ∨ (V 58 x = -1 ∧ NAr V h n x y)) (k : Q (some (0, y)) M) : v_call L d 217 [(2, 77), (0, x)] M Q := by
  have g5 := (hg x hx.1 hx.2).2.2.2.2.1
  refine v_in ?_
  rcases hc with ⟨e1, e2⟩ | ⟨e1, e2⟩
  · refine v_load rfl rfl ⟨rfl, Nat.le_of_ble_eq_true rfl⟩ ?_
    refine v_getp rfl rfl rfl ?_
    refine v_load rfl rfl ⟨rfl, Nat.le_of_ble_eq_true rfl⟩ ?_
    refine v_ald9 rfl rfl ⟨by omega, by show _ < (1600 : Int); omega⟩ ?_
    refine v_push rfl ?_
    refine v_ieq rfl (fun h => absurd h (by omega)) (fun _ => ?_)
    refine v_load rfl rfl ⟨rfl, Nat.le_of_ble_eq_true rfl⟩ ?_
    refine v_getp rfl rfl rfl ?_
    refine v_load rfl rfl ⟨rfl, Nat.le_of_ble_eq_true rfl⟩ ?_
    refine v_ald9 rfl rfl ⟨by omega, by show _ < (1600 : Int); omega⟩ ?_
    rw [g5, ← e2]
    refine v_ret rfl rfl ?_
    exact k
  · refine v_load rfl rfl ⟨rfl, Nat.le_of_ble_eq_true rfl⟩ ?_
    refine v_getp rfl rfl rfl ?_
    refine v_load rfl rfl ⟨rfl, Nat.le_of_ble_eq_true rfl⟩ ?_
    refine v_ald9 rfl rfl ⟨by omega, by show _ < (1600 : Int); omega⟩ ?_
    refine v_push rfl ?_
    refine v_ieq rfl (fun _ => ?_) (fun h => absurd h (by omega))
    refine v_load rfl rfl ⟨rfl, Nat.le_of_ble_eq_true rfl⟩ ?_
    refine v_store rfl ⟨rfl, Nat.le_of_ble_eq_true rfl, Nat.le_of_ble_eq_true rfl, rfl⟩ rfl ?_
    exact R_behind_loop hg hh n x y e2 k
theorem GV_LQr {M : zM} (hg : GV V M0 h) (hq : LQr M0 M) : GV V M h := fun x x0 x1 => GN_fr (hg x x0 x1) (fun b b1 b2 => hq b x (by omega) (fun e => absurd e (by omega))) (fun _ _ _ _ => rfl)
/-- how a parent stands -/
def PAR (p pl dp : Int) (N : List zQ) (M : zM) : Prop := (p = -1 ∧ pl = -1 ∧ dp = 1) ∨ (0 ≤ p ∧ M 110 p = pl ∧ 0 ≤ pl ∧ pl < (N.length : Int) ∧ (N.getD pl.toNat n0).2.2.2.2.1 = dp - 1 ∧ 1 ≤ dp)
theorem num_fo {w : zV} (hg : GV V M0 h) (hh : h ≤ 1216) {p x : Int} {ts : List (List zN)} {I : List Int} (hf : fo V p x ts I) : ts ≠ [] → I.Nodup → p ∉ I → (∀ i ∈ I, i < h) → p < h → (∀ ν ∈ ts.flatten, isLf ν.1 = true → 0 ≤ ν.2.2.2.1 ∧ ν.2.2.2.1 < 300) →
    ∀ (Mc : zM) (N : List zQ) (pl dp : Int) (n : Nat) (y : Int), LQr M0 Mc → RA0 N Mc → PAR p pl dp N Mc → dp ≤ (N.length : Int) + 1 → N.length + I.length ≤ 1216 → NAr V h n p y → (∀ j, Mc 111 j = lfG N N.length (M0 111 j) j) →
    (∀ Mc', LQr M0 Mc' → RA0 (N ++ lay pl dp (N.length : Int) ts.flatten) Mc' → (∀ j, j ∉ I → Mc' 110 j = Mc 110 j) → (∀ i : Nat, i < I.length → Mc' 110 (I.getD i 0) = ((N.length + i : Nat) : Int)) → (∀ j, Mc' 111 j = lfG (N ++ lay pl dp (N.length : Int) ts.flatten) (N.length + ts.flatten.length) (M0 111 j) j) → v_wp L (d + 1) 218 7 [(2, 77), (0, y), w] [] Mc' Q) →
    v_wp L (d + 1) 218 7 [(2, 77), (0, x), w] [] Mc Q := by
  refine fo_ind (C := fun p x ts I => ts ≠ [] → I.Nodup → p ∉ I → (∀ i ∈ I, i < h) → p < h → (∀ ν ∈ ts.flatten, isLf ν.1 = true → 0 ≤ ν.2.2.2.1 ∧ ν.2.2.2.1 < 300) →
    ∀ (Mc : zM) (N : List zQ) (pl dp : Int) (n : Nat) (y : Int), LQr M0 Mc → RA0 N Mc → PAR p pl dp N Mc → dp ≤ (N.length : Int) + 1 → N.length + I.length ≤ 1216 → NAr V h n p y → (∀ j, Mc 111 j = lfG N N.length (M0 111 j) j) →
    (∀ Mc', LQr M0 Mc' → RA0 (N ++ lay pl dp (N.length : Int) ts.flatten) Mc' → (∀ j, j ∉ I → Mc' 110 j = Mc 110 j) → (∀ i : Nat, i < I.length → Mc' 110 (I.getD i 0) = ((N.length + i : Nat) : Int)) → (∀ j, Mc' 111 j = lfG (N ++ lay pl dp (N.length : Int) ts.flatten) (N.length + ts.flatten.length) (M0 111 j) j) → v_wp L (d + 1) 218 7 [(2, 77), (0, y), w] [] Mc' Q) →
    v_wp L (d + 1) 218 7 [(2, 77), (0, x), w] [] Mc Q) hf (fun _ z => absurd rfl z) ?_
  intro p x so fr up sg cs ts Ic It h0 e1 e2 e3 e4 e5 hxi hfc hft i1 i2 _ hnd hpi hih hph hbd Mc N pl dp n y hq hR hpl hdp hlen hNA h111 k
  have hxh := hih x (List.mem_cons_self ..)
  have nd1 := List.nodup_cons.mp hnd
  have nd2 := List.nodup_append.mp nd1.2
  have ndt := nd2.2.1
  have hpx : p ≠ x := fun z => hpi (z ▸ List.mem_cons_self ..)
  have hpc : p ∉ Ic := fun z => hpi (List.mem_cons_of_mem _ (List.mem_append_left _ z))
  have hpt : p ∉ It := fun z => hpi (List.mem_cons_of_mem _ (List.mem_append_right _ z))
  have lI : (x :: (Ic ++ It)).length = Ic.length + It.length + 1 := by simp
  have lc := fo_len hfc
  have lt := fo_len hft
  have ll := lay_len (fo_wf hfc) (N.length : Int) (dp + 1) ((N.length : Int) + 1)
  rw [lI] at hlen
  have ela := lay_cons pl dp (N.length : Int) so fr up sg cs ts
  have hfl : ((mkN so fr up sg cs :: ts).flatten).length = cs.flatten.length + ts.flatten.length + 1 := by rw [List.flatten_cons, List.length_append, mkN_len]; omega
  rw [ela, hfl] at k
  obtain ⟨g1, g2, g3, g4, g5, g6, g7, g8⟩ := GV_LQr hg hq x h0 hxh
  rw [e1] at g1 g2 g3 g4
  rw [e2] at g2 g4
  rw [e4] at g3
  rw [e5] at g8
  generalize hqq : ((so, pl, (cs.length : Int), (cs.flatten.length : Int) + 1, dp, fr, up - fr, sg) : zQ) = q at k
  have q1 : q.1 = so := by rw [← hqq]
  have q2 : q.2.1 = pl := by rw [← hqq]
  have q5 : q.2.2.2.2.1 = dp := by rw [← hqq]
  have q6 : q.2.2.2.2.2.1 = fr := by rw [← hqq]
  have q8 : q.2.2.2.2.2.2.2 = sg := by rw [← hqq]
  have hlfb := hbd (so, (cs.length : Int), (cs.flatten.length : Int) + 1, fr, up - fr, sg) (List.mem_append_left _ (List.mem_cons_self ..))
  have hN1 : (N ++ [q]).length = N.length + 1 := by simp
  -- behind the children
  have rest : ∀ (Mc' : zM), LQr M0 Mc' → RA0 (N ++ [q] ++ lay (N.length : Int) (dp + 1) ((N.length : Int) + 1) cs.flatten) Mc' → (∀ j, j ≠ x → j ∉ Ic → Mc' 110 j = Mc 110 j) → Mc' 110 x = (N.length : Int) → (∀ i : Nat, i < Ic.length → Mc' 110 (Ic.getD i 0) = ((N.length + 1 + i : Nat) : Int)) → (∀ j, Mc' 111 j = lfG (N ++ [q] ++ lay (N.length : Int) (dp + 1) ((N.length : Int) + 1) cs.flatten) (N.length + 1 + cs.flatten.length) (M0 111 j) j) → v_wp L (d + 1) 218 7 [(2, 77), (0, if ts = [] then y else V 60 x), w] [] Mc' Q := by
    intro Mc' hq' hR' hk' hx' hc' h111'
    have hll : (N ++ [q] ++ lay (N.length : Int) (dp + 1) ((N.length : Int) + 1) cs.flatten).length = N.length + 1 + Ic.length := by
      rw [List.length_append, hN1, ll, lc]
    by_cases hts : ts = []
    · rw [if_pos hts]
      have hIt : It = [] := by rw [hts] at lt; exact List.length_eq_zero_iff.mp lt
      subst hts hIt
      rw [show ([] : List (List zN)).flatten = [] from rfl, lay_nil, List.append_nil] at k
      refine k Mc' hq' (by rw [List.append_assoc] at hR'; exact hR') (fun j hj => hk' j (fun z => hj (z ▸ List.mem_cons_self ..)) (fun z => hj (List.mem_cons_of_mem _ (List.mem_append_left _ z)))) (fun i hi => ?_) (fun j => ?_)
      · rw [List.append_nil] at hi ⊢
        cases i with
        | zero => exact hx'
        | succ i =>
          have := hc' i (by simpa using hi)
          rw [List.getD_cons_succ, this]
          omega
      · rw [h111' j, List.append_assoc]
        congr 1
        simp; omega
    · rw [if_neg hts]
      generalize hN' : N ++ [q] ++ lay (N.length : Int) (dp + 1) ((N.length : Int) + 1) cs.flatten = N' at hR' hll h111'
      have hpl' : PAR p pl dp N' Mc' := by
        rcases hpl with z | ⟨z1, z2, z3, z4, z5, z6⟩
        · exact Or.inl z
        · refine Or.inr ⟨z1, by rw [hk' p hpx hpc]; exact z2, z3, by omega, ?_, z6⟩
          rw [← hN', List.append_assoc, qd_app1 (by omega)]
          exact z5
      refine i2 hts ndt hpt (fun i hi => hih i (List.mem_cons_of_mem _ (List.mem_append_right _ hi))) hph (fun ν hν => hbd ν (List.mem_append_right _ hν)) Mc' N' pl dp n y hq' hR' hpl' (by omega) (by omega) hNA (by intro j; rw [h111' j, hll, lc]) (fun Mc2 hq2 hR2 hk2 hn2 h2 => ?_)
      rw [hll] at hR2 hn2 h2
      have eN : ((N.length + 1 + Ic.length : Nat) : Int) = (N.length : Int) + 1 + (cs.flatten.length : Int) := by omega
      rw [eN] at hR2 h2
      have eL : N' ++ lay pl dp ((N.length : Int) + 1 + (cs.flatten.length : Int)) ts.flatten = N ++ q :: (lay (N.length : Int) (dp + 1) ((N.length : Int) + 1) cs.flatten ++ lay pl dp ((N.length : Int) + 1 + (cs.flatten.length : Int)) ts.flatten) := by rw [← hN']; simp
      rw [eL] at hR2 h2
      refine k Mc2 hq2 hR2 (fun j hj => ?_) (fun i hi => ?_) (fun j => ?_)
      · rw [hk2 j (fun z => hj (List.mem_cons_of_mem _ (List.mem_append_right _ z)))]
        exact hk' j (fun z => hj (z ▸ List.mem_cons_self ..)) (fun z => hj (List.mem_cons_of_mem _ (List.mem_append_left _ z)))
      · cases i with
        | zero =>
          show Mc2 110 x = _
          rw [hk2 x (fun z => nd1.1 (List.mem_append_right _ z)), hx']
          omega
        | succ i =>
          rw [List.getD_cons_succ]
          by_cases hic : i < Ic.length
          · have e : (Ic ++ It).getD i 0 = Ic.getD i 0 := g_app1 hic
            have hm : Ic.getD i 0 ∈ Ic := by rw [List.getD_eq_getElem?_getD, List.getElem?_eq_getElem hic]; exact List.getElem_mem hic
            rw [e, hk2 _ (fun z => nd2.2.2 _ hm _ z rfl), hc' i hic]
            omega
          · have hi' : i - Ic.length < It.length := by simp at hi; omega
            have e : (Ic ++ It).getD i 0 = It.getD (i - Ic.length) 0 := by
              rw [List.getD_eq_getElem?_getD, List.getElem?_append_right (by omega), ← List.getD_eq_getElem?_getD]
            rw [e, hn2 _ hi']
            omega
      · rw [h2 j]
        congr 1
        omega
  have hna : ∃ m, NAr V h m x (if ts = [] then y else V 60 x) := by
    by_cases hts : ts = []
    · rw [if_pos hts]
      rcases fo_neg hft with ⟨z, -, -⟩ | ⟨-, z⟩
      · exact ⟨n + 1, ⟨h0, hxh⟩, Or.inr ⟨z, by rw [e5]; exact hNA⟩⟩
      · exact absurd hts z
    · rw [if_neg hts]
      rcases fo_neg hft with ⟨-, z, -⟩ | ⟨z, -⟩
      · exact absurd z hts
      · exact ⟨1, ⟨h0, hxh⟩, Or.inl ⟨by omega, rfl⟩⟩
  obtain ⟨m, hNm⟩ := hna
  have hpar : (p = -1 ∧ pl = -1 ∧ q.2.2.2.2.1 = 1) ∨ (0 ≤ p ∧ p < 1600 ∧ p ≠ x ∧ Mc 110 p = pl ∧ 0 ≤ pl ∧ pl < (N.length : Int) ∧ (N.getD pl.toNat n0).2.2.2.2.1 = q.2.2.2.2.1 - 1 ∧ 0 ≤ q.2.2.2.2.1 ∧ q.2.2.2.2.1 ≤ 5000) := by
    rw [q5]
    rcases hpl with z | ⟨z1, z2, z3, z4, z5, z6⟩
    · exact Or.inl z
    · exact Or.inr ⟨z1, by omega, hpx, z2, z3, z4, z5, by omega, by omega⟩
  have hgc := GV_LQr hg hq
  have take : ∀ (Q' : Option zV → zM → Prop), (∀ M', RA0 (N ++ [q]) M' → M' 110 x = (N.length : Int) → (∀ j, j ≠ x → M' 110 j = Mc 110 j) → (∀ j, M' 111 j = lfG (N ++ [q]) (N.length + 1) (M0 111 j) j) → LQr M0 M' → Q' none M') → v_call L d 216 [(2, 77), (0, x)] Mc Q' := by
    intro Q' kk
    refine R_takes hR (by omega) ⟨h0, by omega⟩ (g1.trans q1.symm) ?_ ?_ ?_ g8 q2 hpar ?_ (fun M' a1 a2 a3 a4 a5 => kk M' a1 a2 a3 (fun j => ?_) (LQr_tr hq a5))
    · unfold tkF; rw [q1, q6]; exact g2
    · unfold sgF; rw [q1, q8]; exact g3
    · intro z; unfold nxC at z; rw [q1] at z; rw [q6]; exact g4 z
    · rw [q1, q6]; exact hlfb
    · rw [a4 j, h111 j]
      show _ = if _ then _ else _
      rw [show (N ++ [q]).getD N.length n0 = q by rw [qd_app2 (Nat.le_refl _), Nat.sub_self]; rfl, lfG_app N [q] N.length _ _ (Nat.le_refl _)]
  by_cases hcs : cs = []
  · rcases fo_neg hfc with ⟨z, -, z2⟩ | ⟨-, z⟩
    · subst hcs z2
      rw [show ([] : List (List zN)).flatten = [] from rfl, lay_nil, List.append_nil] at rest
      refine v_load rfl rfl ⟨rfl, Nat.le_of_ble_eq_true rfl⟩ ?_
      refine v_push rfl ?_
      refine v_ieq rfl (fun h => absurd h (by omega)) (fun _ => ?_)
      refine v_load rfl rfl ⟨rfl, Nat.le_of_ble_eq_true rfl⟩ ?_
      refine v_load rfl rfl ⟨rfl, Nat.le_of_ble_eq_true rfl⟩ ?_
      refine v_callr rfl ⟨Nat.le_of_ble_eq_true rfl, Nat.le_of_ble_eq_true rfl, rfl, Nat.le_of_ble_eq_true rfl, rfl⟩ ?_
      refine take _ (fun M1 r1 r2 r3 r4 r5 => ?_)
      refine v_load rfl rfl ⟨rfl, Nat.le_of_ble_eq_true rfl⟩ ?_
      refine v_load rfl rfl ⟨rfl, Nat.le_of_ble_eq_true rfl⟩ ?_
      refine v_callr rfl ⟨Nat.le_of_ble_eq_true rfl, Nat.le_of_ble_eq_true rfl, rfl, Nat.le_of_ble_eq_true rfl, rfl⟩ ?_
      refine R_behind (GV_LQr hg r5) hh ⟨h0, hxh⟩ (Or.inr ⟨z, hNm⟩) ?_
      refine v_store rfl ⟨rfl, Nat.le_of_ble_eq_true rfl, Nat.le_of_ble_eq_true rfl, rfl⟩ rfl ?_
      refine v_goto rfl ?_
      exact rest M1 r5 r1 (fun j hj _ => r3 j hj) r2 (fun i hi => absurd hi (Nat.not_lt_zero _)) r4
    · exact absurd hcs z
  · rcases fo_neg hfc with ⟨-, z, -⟩ | ⟨z, -⟩
    · exact absurd z hcs
    · refine v_load rfl rfl ⟨rfl, Nat.le_of_ble_eq_true rfl⟩ ?_
      refine v_push rfl ?_
      refine v_ieq rfl (fun h => absurd h (by omega)) (fun _ => ?_)
      refine v_load rfl rfl ⟨rfl, Nat.le_of_ble_eq_true rfl⟩ ?_
      refine v_load rfl rfl ⟨rfl, Nat.le_of_ble_eq_true rfl⟩ ?_
      refine v_callr rfl ⟨Nat.le_of_ble_eq_true rfl, Nat.le_of_ble_eq_true rfl, rfl, Nat.le_of_ble_eq_true rfl, rfl⟩ ?_
      refine take _ (fun M1 r1 r2 r3 r4 r5 => ?_)
      refine v_load rfl rfl ⟨rfl, Nat.le_of_ble_eq_true rfl⟩ ?_
      refine v_load rfl rfl ⟨rfl, Nat.le_of_ble_eq_true rfl⟩ ?_
      refine v_callr rfl ⟨Nat.le_of_ble_eq_true rfl, Nat.le_of_ble_eq_true rfl, rfl, Nat.le_of_ble_eq_true rfl, rfl⟩ ?_
      refine R_behind (n := 0) (GV_LQr hg r5) hh ⟨h0, hxh⟩ (Or.inl ⟨by omega, rfl⟩) ?_
      refine v_store rfl ⟨rfl, Nat.le_of_ble_eq_true rfl, Nat.le_of_ble_eq_true rfl, rfl⟩ rfl ?_
      refine v_goto rfl ?_
      refine i1 hcs nd2.1 hxi (fun i hi => hih i (List.mem_cons_of_mem _ (List.mem_append_left _ hi))) hxh (fun ν hν => hbd ν (List.mem_append_left _ (List.mem_cons_of_mem _ hν))) M1 (N ++ [q]) (N.length : Int) (dp + 1) m _ r5 r1 (Or.inr ⟨h0, r2, by omega, by rw [hN1]; omega, ?_, by
        rcases hpl with z | z <;> omega⟩) (by rw [hN1]; omega) (by rw [hN1]; omega) hNm (by rw [hN1]; exact r4) (fun M2 s1 s2 s3 s4 s5 => ?_)
      · rw [show ((N.length : Int)).toNat = N.length by omega, show (N ++ [q]).getD N.length n0 = q by rw [qd_app2 (Nat.le_refl _), Nat.sub_self]; rfl, q5]
        omega
      · rw [hN1] at s2 s4 s5
        rw [show ((N.length + 1 : Nat) : Int) = (N.length : Int) + 1 by omega] at s2 s5
        exact rest M2 s1 s2 (fun j hj hj2 => by rw [s3 j hj2]; exact r3 j hj) (by rw [s3 x hxi]; exact r2) s4 s5
end RNV
