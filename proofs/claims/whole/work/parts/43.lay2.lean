/-! LAYING, the loop: method 60 -/
def LQ (M0 M : zM) : Prop := ∀ b j, ¬ (42 ≤ b ∧ b ≤ 51) → b ≠ 61 → M b j = M0 b j
theorem LQ_rf {M : zM} : LQ M M := fun _ _ _ _ => rfl
theorem LQ_tr {M M1 M2 : zM} (h : LQ M M1) (h2 : LQ M1 M2) : LQ M M2 := fun b j hb hj => (h2 b j hb hj).trans (h b j hb hj)
theorem PS_LQ {T : List zT} {h a : Int} {M0 M : zM} (hP : PS T h a M0) (hq : LQ M0 M) : PS T h a M := by
  obtain ⟨p1, p2, hR, q⟩ := hP
  refine ⟨by rw [hq 52 11 (by omega) (by decide)]; exact p1, by rw [hq 52 12 (by omega) (by decide)]; exact p2, ⟨by rw [hq 36 6 (by omega) (by decide)]; exact hR.1, hR.2.1, fun i hi => ?_⟩, q⟩
  rw [hq 37 i (by omega) (by decide), hq 38 i (by omega) (by decide), hq 39 i (by omega) (by decide), hq 40 i (by omega) (by decide), hq 41 i (by omega) (by decide)]
  exact hR.2.2 i hi
theorem NA_LQ {M0 M : zM} {h : Int} (hq : LQ M0 M) : ∀ (n : Nat) (x y : Int), NA M0 h n x y → NA M h n x y
  | 0, _, _, hN => hN
  | n + 1, x, y, ⟨h1, hN⟩ => by
    refine ⟨h1, ?_⟩
    rw [hq 60 x (by omega) (by decide), hq 57 x (by omega) (by decide)]
    rcases hN with z | ⟨z, w⟩
    · exact Or.inl z
    · exact Or.inr ⟨z, NA_LQ hq n _ _ w⟩
theorem fo_len {M : zM} {p x : Int} {ts : List (List zN)} {I : List Int} (h : fo M p x ts I) : I.length = ts.flatten.length := by
  refine fo_ind (C := fun _ _ ts I => I.length = ts.flatten.length) h (fun _ => rfl) ?_
  intro p x so fr up sg cs ts Ic It _ _ _ _ _ _ _ _ _ i1 i2
  rw [List.flatten_cons, List.length_append, mkN_len, List.length_cons, List.length_append, i1, i2]
  omega
theorem RN_61 {N : List zQ} {M : zM} {x v : Int} (h : RN N M) : RN N (z_upd M 61 x v) := RN_oR (lo := 61) (hi := 61) h (fun b j hb => u_n1 (by omega)) (by decide)
theorem nd_app1 {N : List zQ} {q : zQ} {i : Int} (h : i < (N.length : Int)) : nd (N ++ [q]) i = nd N i := by
  unfold nd
  by_cases h0 : 0 ≤ i
  · rw [if_pos ⟨h0, by simp; omega⟩, if_pos ⟨h0, h⟩, List.getD_eq_getElem?_getD, List.getElem?_append_left (by omega), ← List.getD_eq_getElem?_getD]
  · rw [if_neg (fun z => h0 z.1), if_neg (fun z => h0 z.1)]
theorem nd_apps {N S : List zQ} {i : Int} (h : i < (N.length : Int)) : nd (N ++ S) i = nd N i := by
  unfold nd
  by_cases h0 : 0 ≤ i
  · rw [if_pos ⟨h0, by simp; omega⟩, if_pos ⟨h0, h⟩, List.getD_eq_getElem?_getD, List.getElem?_append_left (by omega), ← List.getD_eq_getElem?_getD]
  · rw [if_neg (fun z => h0 z.1), if_neg (fun z => h0 z.1)]
theorem nd_app2 {N : List zQ} {q : zQ} : nd (N ++ [q]) (N.length : Int) = q := by
  unfold nd
  rw [if_pos ⟨by omega, by simp; omega⟩, List.getD_eq_getElem?_getD, show ((N.length : Nat) : Int).toNat = N.length by omega, List.getElem?_append_right (Nat.le_refl _)]
  simp
section LY2
variable {L d : Nat} {Q : Option zV → zM → Prop} {T : List zT} {h a : Int} {M0 : zM}
theorem lay_fo {root : Int} (hP : PS T h a M0) {p x : Int} {ts : List (List zN)} {I : List Int} (hf : fo M0 p x ts I) : ts ≠ [] → p ∉ I → (∀ i ∈ I, i < h) → (∀ ν ∈ ts.flatten, (0 ≤ ν.2.2.2.1 ∧ ν.2.2.2.1 ≤ 1000) ∧ (0 ≤ ν.2.2.2.2.1 ∧ ν.2.2.2.2.1 ≤ 1000)) →
    ∀ (Mc : zM) (N : List zQ) (pl dp : Int) (n : Nat) (y : Int), LQ M0 Mc → RN N Mc → pl = (if 0 ≤ p ∧ p < h then Mc 61 p else -1) → (nd N pl).2.2.2.2.1 = dp - 1 → 1 ≤ dp → dp ≤ (N.length : Int) + 1 → pl < (N.length : Int) → N.length + I.length ≤ 1216 → NA M0 h n p y → n + I.length ≤ 1216 →
    (∀ Mc' w, LQ M0 Mc' → RN (N ++ (lay pl dp (N.length : Int) ts.flatten).map q0) Mc' → (∀ j, j ∉ I → Mc' 61 j = Mc 61 j) → v_wp L (d + 4) 60 11 [(2, 52), (0, root), (0, y), (0, ((N.length + I.length : Nat) : Int)), w] [] Mc' Q) →
    ∀ w, v_wp L (d + 4) 60 11 [(2, 52), (0, root), (0, x), (0, (N.length : Int)), w] [] Mc Q := by
  refine fo_ind (C := fun p x ts I => ts ≠ [] → p ∉ I → (∀ i ∈ I, i < h) → (∀ ν ∈ ts.flatten, (0 ≤ ν.2.2.2.1 ∧ ν.2.2.2.1 ≤ 1000) ∧ (0 ≤ ν.2.2.2.2.1 ∧ ν.2.2.2.2.1 ≤ 1000)) →
    ∀ (Mc : zM) (N : List zQ) (pl dp : Int) (n : Nat) (y : Int), LQ M0 Mc → RN N Mc → pl = (if 0 ≤ p ∧ p < h then Mc 61 p else -1) → (nd N pl).2.2.2.2.1 = dp - 1 → 1 ≤ dp → dp ≤ (N.length : Int) + 1 → pl < (N.length : Int) → N.length + I.length ≤ 1216 → NA M0 h n p y → n + I.length ≤ 1216 →
    (∀ Mc' w, LQ M0 Mc' → RN (N ++ (lay pl dp (N.length : Int) ts.flatten).map q0) Mc' → (∀ j, j ∉ I → Mc' 61 j = Mc 61 j) → v_wp L (d + 4) 60 11 [(2, 52), (0, root), (0, y), (0, ((N.length + I.length : Nat) : Int)), w] [] Mc' Q) →
    ∀ w, v_wp L (d + 4) 60 11 [(2, 52), (0, root), (0, x), (0, (N.length : Int)), w] [] Mc Q) hf (fun _ z => absurd rfl z) ?_
  intro p x so fr up sg cs ts Ic It h0 e1 e2 e3 e4 e5 hxi hfc hft i1 i2 _ hpi hih hbd Mc N pl dp n y hq hR hpl hdp hd1 hd2 hpn hlen hNA hn k w
  have hxh := hih x (List.mem_cons_self ..)
  have hpx : p ≠ x := fun z => hpi (z ▸ List.mem_cons_self ..)
  have hpc : p ∉ Ic := fun z => hpi (List.mem_cons_of_mem _ (List.mem_append_left _ z))
  have hpt : p ∉ It := fun z => hpi (List.mem_cons_of_mem _ (List.mem_append_right _ z))
  have hPc := PS_LQ hP hq
  have q2 := hP.2.2.2.2.1
  have lI : (x :: (Ic ++ It)).length = Ic.length + It.length + 1 := by simp
  have lc := fo_len hfc
  have lt := fo_len hft
  rw [lI] at hlen hn k
  have hb0 := hbd (so, (cs.length : Int), (cs.flatten.length : Int) + 1, fr, up - fr, sg) (List.mem_append_left _ (List.mem_cons_self ..))
  obtain ⟨⟨hb1, hb2⟩, hb3, hb4⟩ := hb0
  have hb1 : 0 ≤ fr := hb1
  have hb2 : fr ≤ 1000 := hb2
  have hb3 : 0 ≤ up - fr := hb3
  have hb4 : up - fr ≤ 1000 := hb4
  have c53 : Mc 53 x = so := by rw [hq 53 x (by omega) (by decide)]; exact e1
  have c54 : Mc 54 x = fr := by rw [hq 54 x (by omega) (by decide)]; exact e2
  have c55 : Mc 55 x = up := by rw [hq 55 x (by omega) (by decide)]; exact e3
  have c56 : Mc 56 x = sg := by rw [hq 56 x (by omega) (by decide)]; exact e4
  have c57 : Mc 57 x = p := by rw [hq 57 x (by omega) (by decide)]; exact e5
  have c58 : Mc 58 x = M0 58 x := hq 58 x (by omega) (by decide)
  have ela := lay_cons pl dp (N.length : Int) so fr up sg cs ts
  -- behind the children
  have rest : ∀ (Mc' : zM) (w : zV), LQ M0 Mc' → RN (N ++ [q0 (so, pl, (cs.length : Int), (cs.flatten.length : Int) + 1, dp, fr, up - fr, sg)] ++ (lay (N.length : Int) (dp + 1) ((N.length : Int) + 1) cs.flatten).map q0) Mc' → (∀ j, j ≠ x → j ∉ Ic → Mc' 61 j = Mc 61 j) → v_wp L (d + 4) 60 11 [(2, 52), (0, root), (0, if ts = [] then y else M0 60 x), (0, ((N.length + Ic.length + 1 : Nat) : Int)), w] [] Mc' Q := by
    intro Mc' w hq' hR' hk'
    have hll : (N ++ [q0 (so, pl, (cs.length : Int), (cs.flatten.length : Int) + 1, dp, fr, up - fr, sg)] ++ (lay (N.length : Int) (dp + 1) ((N.length : Int) + 1) cs.flatten).map q0).length = N.length + Ic.length + 1 := by
      rw [List.length_append, List.length_append, List.length_map, lay_len (fo_wf hfc), lc]
      simp
      omega
    by_cases hts : ts = []
    · rw [if_pos hts]
      have hIt : It = [] := by rw [hts] at lt; exact List.length_eq_zero_iff.mp lt
      have := k Mc' w hq' (by
        rw [ela, hts, show ([] : List (List zN)).flatten = [] from rfl, lay_nil, List.append_nil, List.map_cons]
        rw [List.append_assoc] at hR'
        exact hR') (fun j hj => hk' j (fun z => hj (z ▸ List.mem_cons_self ..)) (fun z => hj (List.mem_cons_of_mem _ (List.mem_append_left _ z))))
      rw [hIt] at this
      exact this
    · rw [if_neg hts]
      generalize hN' : N ++ [q0 (so, pl, (cs.length : Int), (cs.flatten.length : Int) + 1, dp, fr, up - fr, sg)] ++ (lay (N.length : Int) (dp + 1) ((N.length : Int) + 1) cs.flatten).map q0 = N' at hR' hll
      have := i2 hts hpt (fun i hi => hih i (List.mem_cons_of_mem _ (List.mem_append_right _ hi))) (fun ν hν => hbd ν (List.mem_append_right _ hν)) Mc' N' pl dp n y hq' hR' (by rw [hk' p hpx hpc]; exact hpl) (by rw [← hN', List.append_assoc, nd_apps hpn]; exact hdp) hd1 (by omega) (by omega) (by omega) hNA (by omega) ?_ w
      · rw [hll] at this; exact this
      · intro Mc2 w2 hq2 hR2 hk2
        have := k Mc2 w2 hq2 (by
          rw [ela, List.map_cons, List.map_append]
          rw [hll, ← hN', List.append_assoc, List.append_assoc] at hR2
          rw [show ((N.length + Ic.length + 1 : Nat) : Int) = (N.length : Int) + 1 + (cs.flatten.length : Int) by omega] at hR2
          exact hR2) (fun j hj => by
            rw [hk2 j (fun z => hj (List.mem_cons_of_mem _ (List.mem_append_right _ z)))]
            exact hk' j (fun z => hj (z ▸ List.mem_cons_self ..)) (fun z => hj (List.mem_cons_of_mem _ (List.mem_append_left _ z))))
        rw [show N'.length + It.length = N.length + (Ic.length + It.length + 1) by omega]
        exact this
  have hna : ∃ m, m ≤ n + 1 ∧ m ≤ 1 + n ∧ NA M0 h m x (if ts = [] then y else M0 60 x) := by
    by_cases hts : ts = []
    · rw [if_pos hts]
      rcases fo_neg hft with ⟨z, -, -⟩ | ⟨-, z⟩
      · exact ⟨n + 1, Nat.le_refl _, by omega, ⟨h0, hxh⟩, Or.inr ⟨z, by rw [e5]; exact hNA⟩⟩
      · exact absurd hts z
    · rw [if_neg hts]
      rcases fo_neg hft with ⟨-, z, -⟩ | ⟨z, -⟩
      · exact absurd z hts
      · exact ⟨1, by omega, by omega, ⟨h0, hxh⟩, Or.inl ⟨by omega, rfl⟩⟩
  obtain ⟨m, hm, -, hNm⟩ := hna
  have at69 : v_wp L (d + 4) 60 69 [(2, 52), (0, root), (0, x), (0, (N.length : Int)), (0, p)] [(0, pl), (0, so), (2, 42), (0, x), (2, 61)] Mc Q := by
    have _ := c54
    refine v_load rfl rfl ⟨rfl, Nat.le_of_ble_eq_true rfl⟩ ?_
    refine v_getp rfl rfl rfl ?_
    refine v_load rfl rfl ⟨rfl, Nat.le_of_ble_eq_true rfl⟩ ?_
    refine v_ald9 rfl rfl ⟨by omega, by show _ < (1216 : Int); omega⟩ ?_
    refine v_load rfl rfl ⟨rfl, Nat.le_of_ble_eq_true rfl⟩ ?_
    refine v_getp rfl rfl rfl ?_
    refine v_load rfl rfl ⟨rfl, Nat.le_of_ble_eq_true rfl⟩ ?_
    refine v_ald9 rfl rfl ⟨by omega, by show _ < (1216 : Int); omega⟩ ?_
    refine v_load rfl rfl ⟨rfl, Nat.le_of_ble_eq_true rfl⟩ ?_
    refine v_getp rfl rfl rfl ?_
    refine v_load rfl rfl ⟨rfl, Nat.le_of_ble_eq_true rfl⟩ ?_
    refine v_ald9 rfl rfl ⟨by omega, by show _ < (1216 : Int); omega⟩ ?_
    rw [c54, c55]
    refine v_sub rfl (by omega) ?_
    refine v_load rfl rfl ⟨rfl, Nat.le_of_ble_eq_true rfl⟩ ?_
    refine v_getp rfl rfl rfl ?_
    refine v_load rfl rfl ⟨rfl, Nat.le_of_ble_eq_true rfl⟩ ?_
    refine v_ald9 rfl rfl ⟨by omega, by show _ < (1216 : Int); omega⟩ ?_
    rw [c56]
    refine v_callr rfl ⟨Nat.le_of_ble_eq_true rfl, Nat.le_of_ble_eq_true rfl, rfl, Nat.le_of_ble_eq_true rfl, rfl⟩ ?_
    refine S_ndAdd hR (by omega) (by rw [hdp]; omega) (fun M1 hR1 ho1 => ?_)
    refine v_ast9 rfl rfl (by decide) ⟨by omega, by show _ < (1216 : Int); omega⟩ ?_
    have hq1 : LQ M0 (z_upd M1 61 x (N.length : Int)) := fun b j hb hj => by
      rw [u_n1 hj, ho1 b j (by omega)]
      exact hq b j hb hj
    have hR2 := RN_61 (x := x) (v := (N.length : Int)) hR1
    rw [hdp, show dp - 1 + 1 = dp by omega] at hR2
    have hp1 := PS_LQ hP hq1
    have hoth : ∀ j, j ≠ x → z_upd M1 61 x (N.length : Int) 61 j = Mc 61 j := fun j hj => by rw [u_n2 hj, ho1 61 j (by omega)]
    have c58' : z_upd M1 61 x (N.length : Int) 58 x = M0 58 x := hq1 58 x (by omega) (by decide)
    by_cases hcs : cs = []
    · rcases fo_neg hfc with ⟨z, -, z2⟩ | ⟨-, z⟩
      · have _ := c58'
        refine v_load rfl rfl ⟨rfl, Nat.le_of_ble_eq_true rfl⟩ ?_
        refine v_getp rfl rfl rfl ?_
        refine v_load rfl rfl ⟨rfl, Nat.le_of_ble_eq_true rfl⟩ ?_
        refine v_ald9 rfl rfl ⟨by omega, by show _ < (1216 : Int); omega⟩ ?_
        refine v_push rfl ?_
        refine v_ine rfl (fun h => absurd h (by rw [c58', z]; decide)) (fun _ => ?_)
        refine v_load rfl rfl ⟨rfl, Nat.le_of_ble_eq_true rfl⟩ ?_
        refine v_load rfl rfl ⟨rfl, Nat.le_of_ble_eq_true rfl⟩ ?_
        refine v_callr rfl ⟨Nat.le_of_ble_eq_true rfl, Nat.le_of_ble_eq_true rfl, rfl, Nat.le_of_ble_eq_true rfl, rfl⟩ ?_
        refine S_around hp1 (NA_LQ hq1 m _ _ hNm) (by omega) ?_
        refine v_goto rfl ?_
        refine v_store rfl ⟨rfl, Nat.le_of_ble_eq_true rfl, Nat.le_of_ble_eq_true rfl, rfl⟩ rfl ?_
        refine v_iinc rfl rfl rfl (by omega) rfl ?_
        refine v_goto rfl ?_
        have := rest _ (0, p) hq1 (by
          rw [hcs, show ([] : List (List zN)).flatten = [] from rfl, lay_nil, List.map_nil, List.append_nil]
          exact hR2) (fun j hj _ => hoth j hj)
        rw [z2] at this
        exact this
      · exact absurd hcs z
    · rcases fo_neg hfc with ⟨-, z, -⟩ | ⟨z, -⟩
      · exact absurd z hcs
      · refine v_load rfl rfl ⟨rfl, Nat.le_of_ble_eq_true rfl⟩ ?_
        refine v_getp rfl rfl rfl ?_
        refine v_load rfl rfl ⟨rfl, Nat.le_of_ble_eq_true rfl⟩ ?_
        refine v_ald9 rfl rfl ⟨by omega, by show _ < (1216 : Int); omega⟩ ?_
        refine v_push rfl ?_
        refine v_ine rfl (fun _ => ?_) (fun h => absurd h (by rw [c58']; omega))
        refine v_load rfl rfl ⟨rfl, Nat.le_of_ble_eq_true rfl⟩ ?_
        refine v_getp rfl rfl rfl ?_
        refine v_load rfl rfl ⟨rfl, Nat.le_of_ble_eq_true rfl⟩ ?_
        refine v_ald9 rfl rfl ⟨by omega, by show _ < (1216 : Int); omega⟩ ?_
        rw [c58']
        refine v_store rfl ⟨rfl, Nat.le_of_ble_eq_true rfl, Nat.le_of_ble_eq_true rfl, rfl⟩ rfl ?_
        refine v_iinc rfl rfl rfl (by omega) rfl ?_
        refine v_goto rfl ?_
        have hl1 : (N ++ [((so, pl, 0, 1, dp, fr, up - fr, sg) : zQ)]).length = N.length + 1 := by simp
        have := i1 hcs hxi (fun i hi => hih i (List.mem_cons_of_mem _ (List.mem_append_left _ hi))) (fun ν hν => hbd ν (List.mem_append_left _ (List.mem_cons_of_mem _ hν))) _ _ (N.length : Int) (dp + 1) m _ hq1 hR2 (by rw [if_pos ⟨h0, hxh⟩, u_eq]) (by
          rw [show nd (N ++ [(so, pl, 0, 1, dp, fr, up - fr, sg)]) (N.length : Int) = (so, pl, 0, 1, dp, fr, up - fr, sg) from nd_app2]
          show dp = dp + 1 - 1
          omega) (by omega) (by rw [hl1]; omega) (by rw [hl1]; omega) (by rw [hl1]; omega) hNm (by omega) ?_ (0, p)
        · rw [hl1] at this
          exact this
        · intro Mc2 w2 hq2 hR2' hk2
          rw [hl1] at hR2' ⊢
          rw [show N.length + 1 + Ic.length = N.length + Ic.length + 1 by omega]
          exact rest Mc2 w2 hq2 hR2' (fun j hj hj2 => by rw [hk2 j hj2]; exact hoth j hj)
  by_cases hph : 0 ≤ p ∧ p < h
  · rw [if_pos hph] at hpl
    rw [hpl] at at69
    refine v_load rfl rfl ⟨rfl, Nat.le_of_ble_eq_true rfl⟩ ?_
    refine v_push rfl ?_
    refine v_ige rfl (fun h => absurd h (by omega)) (fun _ => ?_)
    refine v_load rfl rfl ⟨rfl, Nat.le_of_ble_eq_true rfl⟩ ?_
    refine v_load rfl rfl ⟨rfl, Nat.le_of_ble_eq_true rfl⟩ ?_
    refine v_callr rfl ⟨Nat.le_of_ble_eq_true rfl, Nat.le_of_ble_eq_true rfl, rfl, Nat.le_of_ble_eq_true rfl, rfl⟩ ?_
    refine S_held hPc ⟨h0, hxh⟩ ?_
    refine v_ifeq rfl (fun h => absurd h (by omega)) (fun _ => ?_)
    have _ := c57
    refine v_load rfl rfl ⟨rfl, Nat.le_of_ble_eq_true rfl⟩ ?_
    refine v_getp rfl rfl rfl ?_
    refine v_load rfl rfl ⟨rfl, Nat.le_of_ble_eq_true rfl⟩ ?_
    refine v_ald9 rfl rfl ⟨by omega, by show _ < (1216 : Int); omega⟩ ?_
    refine v_store rfl ⟨rfl, Nat.le_of_ble_eq_true rfl, Nat.le_of_ble_eq_true rfl, rfl⟩ rfl ?_
    refine v_load rfl rfl ⟨rfl, Nat.le_of_ble_eq_true rfl⟩ ?_
    refine v_getp rfl rfl rfl ?_
    refine v_load rfl rfl ⟨rfl, Nat.le_of_ble_eq_true rfl⟩ ?_
    refine v_load rfl rfl ⟨rfl, Nat.le_of_ble_eq_true rfl⟩ ?_
    refine v_getp rfl rfl rfl ?_
    refine v_load rfl rfl ⟨rfl, Nat.le_of_ble_eq_true rfl⟩ ?_
    refine v_getp rfl rfl rfl ?_
    refine v_load rfl rfl ⟨rfl, Nat.le_of_ble_eq_true rfl⟩ ?_
    refine v_ald9 rfl rfl ⟨by omega, by show _ < (1216 : Int); omega⟩ ?_
    refine v_load rfl rfl ⟨rfl, Nat.le_of_ble_eq_true rfl⟩ ?_
    refine v_load rfl rfl ⟨rfl, Nat.le_of_ble_eq_true rfl⟩ ?_
    refine v_callr rfl ⟨Nat.le_of_ble_eq_true rfl, Nat.le_of_ble_eq_true rfl, rfl, Nat.le_of_ble_eq_true rfl, rfl⟩ ?_
    refine S_isHeld hPc ?_
    rw [c57, if_pos hph]
    refine v_ifeq rfl (fun h => absurd h (by omega)) (fun _ => ?_)
    rw [c53]
    refine v_load rfl rfl ⟨rfl, Nat.le_of_ble_eq_true rfl⟩ ?_
    refine v_getp rfl rfl rfl ?_
    refine v_load rfl rfl ⟨rfl, Nat.le_of_ble_eq_true rfl⟩ ?_
    refine v_ald9 rfl rfl ⟨by omega, by show _ < (1216 : Int); omega⟩ ?_
    refine v_goto rfl ?_
    exact at69
  · rw [if_neg hph] at hpl
    rw [hpl] at at69
    refine v_load rfl rfl ⟨rfl, Nat.le_of_ble_eq_true rfl⟩ ?_
    refine v_push rfl ?_
    refine v_ige rfl (fun h => absurd h (by omega)) (fun _ => ?_)
    refine v_load rfl rfl ⟨rfl, Nat.le_of_ble_eq_true rfl⟩ ?_
    refine v_load rfl rfl ⟨rfl, Nat.le_of_ble_eq_true rfl⟩ ?_
    refine v_callr rfl ⟨Nat.le_of_ble_eq_true rfl, Nat.le_of_ble_eq_true rfl, rfl, Nat.le_of_ble_eq_true rfl, rfl⟩ ?_
    refine S_held hPc ⟨h0, hxh⟩ ?_
    refine v_ifeq rfl (fun h => absurd h (by omega)) (fun _ => ?_)
    have _ := c57
    refine v_load rfl rfl ⟨rfl, Nat.le_of_ble_eq_true rfl⟩ ?_
    refine v_getp rfl rfl rfl ?_
    refine v_load rfl rfl ⟨rfl, Nat.le_of_ble_eq_true rfl⟩ ?_
    refine v_ald9 rfl rfl ⟨by omega, by show _ < (1216 : Int); omega⟩ ?_
    refine v_store rfl ⟨rfl, Nat.le_of_ble_eq_true rfl, Nat.le_of_ble_eq_true rfl, rfl⟩ rfl ?_
    refine v_load rfl rfl ⟨rfl, Nat.le_of_ble_eq_true rfl⟩ ?_
    refine v_getp rfl rfl rfl ?_
    refine v_load rfl rfl ⟨rfl, Nat.le_of_ble_eq_true rfl⟩ ?_
    refine v_load rfl rfl ⟨rfl, Nat.le_of_ble_eq_true rfl⟩ ?_
    refine v_getp rfl rfl rfl ?_
    refine v_load rfl rfl ⟨rfl, Nat.le_of_ble_eq_true rfl⟩ ?_
    refine v_getp rfl rfl rfl ?_
    refine v_load rfl rfl ⟨rfl, Nat.le_of_ble_eq_true rfl⟩ ?_
    refine v_ald9 rfl rfl ⟨by omega, by show _ < (1216 : Int); omega⟩ ?_
    refine v_load rfl rfl ⟨rfl, Nat.le_of_ble_eq_true rfl⟩ ?_
    refine v_load rfl rfl ⟨rfl, Nat.le_of_ble_eq_true rfl⟩ ?_
    refine v_callr rfl ⟨Nat.le_of_ble_eq_true rfl, Nat.le_of_ble_eq_true rfl, rfl, Nat.le_of_ble_eq_true rfl, rfl⟩ ?_
    refine S_isHeld hPc ?_
    rw [c57, if_neg hph]
    refine v_ifeq rfl (fun _ => ?_) (fun h => absurd h (by omega))
    rw [c53]
    refine v_push rfl ?_
    exact at69
end LY2
