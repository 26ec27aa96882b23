/-! ACTS: swap -/
/-- what stands behind a node in the order begins behind its tokens -/
theorem cv_next {T : List zT} {a b : Int} {ts : List (List zN)} (h : cv T a ts b) : ∀ (i j : Nat) (x y : zN), i < j → ts.flatten[i]? = some x → ts.flatten[j]? = some y → (i : Int) + x.2.2.1 ≤ (j : Int) → x.2.2.2.1 + x.2.2.2.2.1 ≤ y.2.2.2.1 := by
  have leaf : ∀ (a m b : Int) (ν : zN) (cs ts : List (List zN)), ν.2.2.2.1 + ν.2.2.2.2.1 = m → ν.2.2.1 = (cs.flatten.length : Int) + 1 → (∀ w ∈ cs.flatten, w.2.2.2.1 + w.2.2.2.2.1 ≤ m) → (∀ w ∈ ts.flatten, m ≤ w.2.2.2.1) → (∀ (i j : Nat) (x y : zN), i < j → cs.flatten[i]? = some x → cs.flatten[j]? = some y → (i : Int) + x.2.2.1 ≤ (j : Int) → x.2.2.2.1 + x.2.2.2.2.1 ≤ y.2.2.2.1) → (∀ (i j : Nat) (x y : zN), i < j → ts.flatten[i]? = some x → ts.flatten[j]? = some y → (i : Int) + x.2.2.1 ≤ (j : Int) → x.2.2.2.1 + x.2.2.2.2.1 ≤ y.2.2.2.1) → ∀ (i j : Nat) (x y : zN), i < j → (ν :: (cs.flatten ++ ts.flatten))[i]? = some x → (ν :: (cs.flatten ++ ts.flatten))[j]? = some y → (i : Int) + x.2.2.1 ≤ (j : Int) → x.2.2.2.1 + x.2.2.2.2.1 ≤ y.2.2.2.1 := by
    intro a m b ν cs ts e1 e2 g1 g2 i1 i2 i j x y hij hx hy hs
    cases j with
    | zero => omega
    | succ j =>
      rw [List.getElem?_cons_succ] at hy
      cases i with
      | zero =>
        rw [List.getElem?_cons_zero] at hx
        have hx := Option.some.inj hx
        subst hx
        rw [e1]
        rw [List.getElem?_append_right (by omega)] at hy
        exact g2 y (List.mem_of_getElem? hy)
      | succ i =>
        rw [List.getElem?_cons_succ] at hx
        by_cases c : i < cs.flatten.length
        · rw [List.getElem?_append_left c] at hx
          by_cases c' : j < cs.flatten.length
          · rw [List.getElem?_append_left c'] at hy
            exact i1 i j x y (by omega) hx hy (by omega)
          · rw [List.getElem?_append_right (by omega)] at hy
            exact Int.le_trans (g1 x (List.mem_of_getElem? hx)) (g2 y (List.mem_of_getElem? hy))
        · rw [List.getElem?_append_right (by omega)] at hx hy
          exact i2 _ _ x y (by omega) hx hy (by omega)
  refine cv_ind (C := fun a ts b => ∀ (i j : Nat) (x y : zN), i < j → ts.flatten[i]? = some x → ts.flatten[j]? = some y → (i : Int) + x.2.2.1 ≤ (j : Int) → x.2.2.2.1 + x.2.2.2.2.1 ≤ y.2.2.2.1) h (fun _ i j x y _ hx => by simp at hx) ?_ ?_ ?_
  · intro a so sg ts b hl hct ih
    exact leaf a (a + 1) b (so, 0, 1, a, a + 1 - a, sg) [] ts (by show a + (a + 1 - a) = a + 1; omega) rfl (fun w hw => absurd hw List.not_mem_nil) (fun w hw => (cv_bd hct w hw).1) (fun i j x y _ hx => by simp at hx) ih
  · intro a sg ts b hs hct ih
    exact leaf a a b (17, 0, 1, a, a + 0 - a, sg) [] ts (by show a + (a + 0 - a) = a; omega) rfl (fun w hw => absurd hw List.not_mem_nil) (fun w hw => (cv_bd hct w hw).1) (fun i j x y _ hx => by simp at hx) ih
  · intro a m so cs ts b hne hsh hc1 hc2 i1 i2
    exact leaf a m b (so, (cs.length : Int), (cs.flatten.length : Int) + 1, a, m - a, 0) cs ts (by show a + (m - a) = m; omega) rfl (fun w hw => (cv_bd hc1 w hw).2.2) (fun w hw => (cv_bd hc2 w hw).1) i1 i2
theorem NT_next {T : List zT} (hT : tkOK T) : ∀ x y : Nat, x < y → y < (NT T).length → (x : Int) + ((NT T).getD x n0).2.2.2.1 ≤ (y : Int) → ((NT T).getD x n0).2.2.2.2.2.1 + ((NT T).getD x n0).2.2.2.2.2.2.1 ≤ ((NT T).getD y n0).2.2.2.2.2.1 := by
  intro x y hxy hy hs
  obtain ⟨tcv, twf⟩ := top_cv hT
  have hm : (NT T).map qN = topN T := (lay_map twf (-1) 1 0).trans (by simp)
  have hlen : (NT T).length = (bal (itemsOf T)).flatten.length + 1 := by
    have := congrArg List.length hm
    rw [List.length_map] at this
    rw [this]
    show ((0, ((bal (itemsOf T)).length : Int), ((bal (itemsOf T)).flatten.length : Int) + 1, (0 : Int), (T.length : Int) - 0, (0 : Int)) :: (bal (itemsOf T)).flatten).length = _
    rfl
  cases x with
  | zero =>
    exfalso
    rcases NT_all hT (i := 0) (by omega) with ⟨-, h⟩ | ⟨h, -⟩
    · rw [h] at hs
      have : (0 : Int) + ((bal (itemsOf T)).flatten.length + 1 : Int) ≤ (y : Int) := hs
      omega
    · exact absurd h (by decide)
  | succ x =>
    cases y with
    | zero => omega
    | succ y =>
      have e : ∀ z, z + 1 < (NT T).length → (bal (itemsOf T)).flatten[z]? = some (qN ((NT T).getD (z + 1) n0)) := by
        intro z hz
        have : ((NT T).map qN)[z + 1]? = some (qN ((NT T).getD (z + 1) n0)) := by
          rw [List.getElem?_map, List.getElem?_eq_getElem hz, List.getD_eq_getElem?_getD, List.getElem?_eq_getElem hz]; rfl
        rw [hm] at this
        exact this
      exact cv_next tcv x y (qN ((NT T).getD (x + 1) n0)) (qN ((NT T).getD (y + 1) n0)) (by omega) (e x (by omega)) (e y hy) (by show (x : Int) + ((NT T).getD (x + 1) n0).2.2.2.1 ≤ (y : Int); omega)
/-- an ITEM has a token -/
theorem itm_tk {t : List Int} {i : Int} (h : itm (nd (NT (toks t)) i).1 = true) : 0 < i ∧ i < ((NT (toks t)).length : Int) ∧ 1 ≤ (nd (NT (toks t)) i).2.2.2.2.2.2.1 := by
  have hin := itm_in h
  have hT := tkOK_toks t
  rw [nd_in hin] at h ⊢
  have hk : i.toNat < (NT (toks t)).length := by omega
  have h0 := (NT_bd hT hk).2.1
  refine ⟨?_, hin.2, ?_⟩
  · by_cases e : i = 0
    · subst e
      rcases NT_all hT hk with ⟨-, hh⟩ | ⟨hh, -⟩
      · rw [hh] at h; exact absurd (show itm 0 = true from h) (by decide)
      · exact absurd hh (by decide)
    · omega
  · by_cases e : ((NT (toks t)).getD i.toNat n0).2.2.2.2.2.2.1 = 0
    · rcases NT_tk0 hT _ i.toNat rfl hk e with hh | hh | hh <;> (rw [hh] at h; exact absurd h (by decide))
    · omega
/-- places of nodes one behind the other -/
theorem pE_pF {t : List Int} {i j : Int} (h0 : 0 < i) (hj : j < ((NT (toks t)).length : Int)) (hs : i < j ∧ i + (nd (NT (toks t)) i).2.2.2.1 ≤ j) : pE t i ≤ pF t j := by
  have hT := tkOK_toks t
  have n1 := NT_next hT i.toNat j.toNat (by omega) (by omega) (by rw [nd_in ⟨by omega, by omega⟩] at hs; omega)
  have b2 := NT_bd hT (i := j.toNat) (by omega)
  have b1 := NT_bd hT (i := i.toNat) (by omega)
  rw [← nd_in (N := NT (toks t)) (i := j) ⟨by omega, by omega⟩] at n1 b2
  rw [← nd_in (N := NT (toks t)) (i := i) ⟨by omega, by omega⟩] at n1 b1
  unfold pE pF
  rw [if_neg (by omega), if_neg (by omega)]
  generalize (nd (NT (toks t)) i).2.2.2.2.2.1 = f1 at *
  generalize (nd (NT (toks t)) i).2.2.2.2.2.2.1 = m1 at *
  generalize (nd (NT (toks t)) j).2.2.2.2.2.1 = f2 at *
  generalize (nd (NT (toks t)) j).2.2.2.2.2.2.1 = m2 at *
  split
  · next c =>
    by_cases e : f1 + m1 - 1 = f2 - 1
    · rw [e]; exact Int.le_refl _
    · by_cases e0 : 0 ≤ f1 + m1 - 1
      · have := tq_ord (t := t) (i := f1 + m1 - 1) (j := f2 - 1) e0 (by omega) (by omega)
        have r := tk_rng (t := t) (f2 - 1)
        omega
      · rw [tk_out (i := f1 + m1 - 1) (by omega)]
        have r := tk_rng (t := t) (f2 - 1)
        show (0 : Int) ≤ _
        omega
  · by_cases e0 : 0 ≤ f1 + m1 - 1
    · exact tq_ord e0 (by omega) (by omega)
    · rw [tk_out (i := f1 + m1 - 1) (by omega)]
      have r := tk_rng (t := t) f2
      show (0 : Int) ≤ _
      omega
section A5
variable {L d n : Nat} {M : zM} {Q : Option zV → zM → Prop} {s : zA}
/-- the reference's rows at a node -/
theorem TM_nd {t : List Int} {i : Int} (hS : RSt t M) (hi : 0 ≤ i ∧ i < ((NT (toks t)).length : Int)) : M 100 i = (nd (NT (toks t)) i).1 ∧ M 101 i = (nd (NT (toks t)) i).2.1 ∧ M 103 i = (nd (NT (toks t)) i).2.2.1 ∧ M 107 i = (nd (NT (toks t)) i).2.2.2.1 ∧ M 102 i = (nd (NT (toks t)) i).2.2.2.2.1 ∧ M 105 i = (if 0 < (nd (NT (toks t)) i).2.2.2.2.2.2.1 then (nd (NT (toks t)) i).2.2.2.2.2.1 else -1) ∧ M 106 i = (nd (NT (toks t)) i).2.2.2.2.2.2.1 ∧ M 108 i = sgF (nd (NT (toks t)) i) := by
  have := TM_at hS.2.2.1 (i := i.toNat) (by omega)
  rw [show ((i.toNat : Nat) : Int) = i by omega, ← nd_in hi] at this
  exact this
theorem NT_1216 {t : List Int} (hS : RSt t M) : (NT (toks t)).length ≤ 1216 := (TM_len hS.2.2.1).2
theorem NT_siz {t : List Int} {i : Int} (hi : 0 ≤ i ∧ i < ((NT (toks t)).length : Int)) : 1 ≤ (nd (NT (toks t)) i).2.2.2.1 ∧ i + (nd (NT (toks t)) i).2.2.2.1 ≤ ((NT (toks t)).length : Int) ∧ 0 ≤ (nd (NT (toks t)) i).2.2.1 := by
  obtain ⟨cs, -, h2, h3, -, h5, -⟩ := NT_nod (tkOK_toks t) (i := i.toNat) (by omega)
  rw [nd_in hi, h3, h2]
  omega
theorem nd_siz {t : List Int} (i : Int) : 0 ≤ (nd (NT (toks t)) i).2.2.2.1 ∧ (0 ≤ i → i + (nd (NT (toks t)) i).2.2.2.1 ≤ ((NT (toks t)).length : Int) ∨ (nd (NT (toks t)) i).2.2.2.1 = 0) := by
  by_cases c : 0 ≤ i ∧ i < ((NT (toks t)).length : Int)
  · have := NT_siz c; exact ⟨by omega, fun _ => Or.inl this.2.1⟩
  · rw [nd_out c]; exact ⟨by decide, fun _ => Or.inr rfl⟩
theorem R_isOf {t : List Int} {i so : Int} (hS : RSt t M) (hi : z_i32 i) (hs : 0 ≤ so) (k : Q (some (0, b2i (decide ((nd (NT (toks t)) i).1 = so)))) M) : v_call L (d + 2) 242 [(2, 77), (0, i), (0, so)] M Q := by
  have hl := NT_1216 hS
  refine v_in ?_
  by_cases c : 0 ≤ i ∧ i ≤ ((NT (toks t)).length : Int) - 1
  · have g1 := (TM_nd hS (i := i) ⟨c.1, by omega⟩).1
    generalize (nd (NT (toks t)) i).1 = x at *
    have hk : b2i (decide (x = so)) = if x = so then 1 else 0 := by unfold b2i; simp
    rw [hk] at k
    refine v_load rfl rfl ⟨rfl, Nat.le_of_ble_eq_true rfl⟩ ?_
    refine v_load rfl rfl ⟨rfl, Nat.le_of_ble_eq_true rfl⟩ ?_
    refine v_callr rfl ⟨Nat.le_of_ble_eq_true rfl, Nat.le_of_ble_eq_true rfl, rfl, Nat.le_of_ble_eq_true rfl, rfl⟩ ?_
    refine R_isNode hS hi ?_
    rw [b2i_t (decide_eq_true c)]
    refine v_ifeq rfl (fun c1 => ?_) (fun c1 => ?_)
    · refine v_push rfl ?_
      refine v_retz rfl (by first | exact Or.inl rfl | exact Or.inr rfl | exact b2i_01 _ | omega) ?_
      first | exact qeq k (by split <;> omega) | (exfalso; omega)
    · refine v_load rfl rfl ⟨rfl, Nat.le_of_ble_eq_true rfl⟩ ?_
      refine v_getp rfl rfl rfl ?_
      refine v_load rfl rfl ⟨rfl, Nat.le_of_ble_eq_true rfl⟩ ?_
      refine v_ald9 rfl rfl ⟨by omega, by show _ < (1600 : Int); omega⟩ ?_
      rw [g1]
      refine v_load rfl rfl ⟨rfl, Nat.le_of_ble_eq_true rfl⟩ ?_
      refine v_ine rfl (fun c2 => ?_) (fun c2 => ?_)
      · refine v_push rfl ?_
        refine v_retz rfl (by first | exact Or.inl rfl | exact Or.inr rfl | exact b2i_01 _ | omega) ?_
        first | exact qeq k (by split <;> omega) | (exfalso; omega)
      · refine v_push rfl ?_
        refine v_goto rfl ?_
        refine v_retz rfl (by first | exact Or.inl rfl | exact Or.inr rfl | exact b2i_01 _ | omega) ?_
        first | exact qeq k (by split <;> omega) | (exfalso; omega)
  · rw [nd_out (by omega), show b2i (decide (n0.1 = so)) = 0 from b2i_f (by simp only [decide_eq_true_eq]; show ¬ (-1 : Int) = so; omega)] at k
    refine v_load rfl rfl ⟨rfl, Nat.le_of_ble_eq_true rfl⟩ ?_
    refine v_load rfl rfl ⟨rfl, Nat.le_of_ble_eq_true rfl⟩ ?_
    refine v_callr rfl ⟨Nat.le_of_ble_eq_true rfl, Nat.le_of_ble_eq_true rfl, rfl, Nat.le_of_ble_eq_true rfl, rfl⟩ ?_
    refine R_isNode hS hi ?_
    rw [b2i_f (by simpa using c)]
    refine v_ifeq rfl (fun _ => ?_) (fun h => absurd h (by decide))
    refine v_push rfl ?_
    first | refine v_ret rfl rfl ?_ | refine v_retz rfl (b2i_01 _) ?_ | refine v_retz rfl (by omega) ?_
    exact k
theorem S_within {i j : Int} {t : List Int} (hN : RN (NT (toks t)) M) (hl : (NT (toks t)).length ≤ 1216) (hj : z_i32 j) (k : Q (some (0, if j ≤ i ∧ i < j + (nd (NT (toks t)) j).2.2.2.1 then 1 else 0)) M) : v_call L (d + 2) 102 [(2, 42), (0, i), (0, j)] M Q := by
  have hj' := hj
  unfold z_i32 at hj'
  have z := nd_siz (t := t) j
  have z2 : (nd (NT (toks t)) j).2.2.2.1 ≤ 1216 ∧ (j < 0 ∨ 1216 < j → (nd (NT (toks t)) j).2.2.2.1 = 0) := by
    by_cases c : 0 ≤ j ∧ j < ((NT (toks t)).length : Int)
    · have := NT_siz c; exact ⟨by omega, fun _ => by omega⟩
    · rw [nd_out c]; exact ⟨by decide, fun _ => rfl⟩
  refine v_in ?_
  refine v_load rfl rfl ⟨rfl, Nat.le_of_ble_eq_true rfl⟩ ?_
  refine v_load rfl rfl ⟨rfl, Nat.le_of_ble_eq_true rfl⟩ ?_
  refine v_ilt rfl (fun c3 => ?_) (fun c3 => ?_)
  · refine v_push rfl ?_
    refine v_retz rfl (by first | exact Or.inl rfl | exact Or.inr rfl | exact b2i_01 _ | omega) ?_
    exact qeq k (by split <;> omega)
  · refine v_load rfl rfl ⟨rfl, Nat.le_of_ble_eq_true rfl⟩ ?_
    refine v_load rfl rfl ⟨rfl, Nat.le_of_ble_eq_true rfl⟩ ?_
    refine v_load rfl rfl ⟨rfl, Nat.le_of_ble_eq_true rfl⟩ ?_
    refine v_load rfl rfl ⟨rfl, Nat.le_of_ble_eq_true rfl⟩ ?_
    refine v_callr rfl ⟨Nat.le_of_ble_eq_true rfl, Nat.le_of_ble_eq_true rfl, rfl, Nat.le_of_ble_eq_true rfl, rfl⟩ ?_
    refine S_ndSiz hN ?_
    refine v_add rfl (by omega) ?_
    refine v_ige rfl (fun c4 => ?_) (fun c4 => ?_)
    · refine v_push rfl ?_
      refine v_retz rfl (by first | exact Or.inl rfl | exact Or.inr rfl | exact b2i_01 _ | omega) ?_
      exact qeq k (by split <;> omega)
    · refine v_push rfl ?_
      refine v_goto rfl ?_
      refine v_retz rfl (by first | exact Or.inl rfl | exact Or.inr rfl | exact b2i_01 _ | omega) ?_
      exact qeq k (by split <;> omega)
theorem R_isInN {i j : Int} {t : List Int} (hS : RSt t M) (hj : 0 ≤ j ∧ j < ((NT (toks t)).length : Int)) (k : Q (some (0, if j ≤ i ∧ i < j + (nd (NT (toks t)) j).2.2.2.1 then 1 else 0)) M) : v_call L d 252 [(2, 77), (0, i), (0, j)] M Q := by
  have hl := NT_1216 hS
  have z := NT_siz hj
  have g := (TM_nd hS hj).2.2.2.1
  refine v_in ?_
  refine v_load rfl rfl ⟨rfl, Nat.le_of_ble_eq_true rfl⟩ ?_
  refine v_load rfl rfl ⟨rfl, Nat.le_of_ble_eq_true rfl⟩ ?_
  refine v_ilt rfl (fun c5 => ?_) (fun c5 => ?_)
  · refine v_push rfl ?_
    refine v_retz rfl (by first | exact Or.inl rfl | exact Or.inr rfl | exact b2i_01 _ | omega) ?_
    exact qeq k (by split <;> omega)
  · refine v_load rfl rfl ⟨rfl, Nat.le_of_ble_eq_true rfl⟩ ?_
    refine v_load rfl rfl ⟨rfl, Nat.le_of_ble_eq_true rfl⟩ ?_
    refine v_load rfl rfl ⟨rfl, Nat.le_of_ble_eq_true rfl⟩ ?_
    refine v_getp rfl rfl rfl ?_
    refine v_load rfl rfl ⟨rfl, Nat.le_of_ble_eq_true rfl⟩ ?_
    refine v_ald9 rfl rfl ⟨by omega, by show _ < (1600 : Int); omega⟩ ?_
    rw [g]
    refine v_add rfl (by omega) ?_
    refine v_ige rfl (fun c6 => ?_) (fun c6 => ?_)
    · refine v_push rfl ?_
      refine v_retz rfl (by first | exact Or.inl rfl | exact Or.inr rfl | exact b2i_01 _ | omega) ?_
      exact qeq k (by split <;> omega)
    · refine v_push rfl ?_
      refine v_goto rfl ?_
      refine v_retz rfl (by first | exact Or.inl rfl | exact Or.inr rfl | exact b2i_01 _ | omega) ?_
      exact qeq k (by split <;> omega)
/-- swap -/
def swF (t : List Int) (fl el fh eh : Int) : List Int := sub t fh eh ++ sub t el fh ++ sub t fl el
noncomputable def swp (s : zA) (lo hi : Int) : zA × Int := if hi < lo + (nd (NT (toks s.1.1)) lo).2.2.2.1 then (s, -2) else (edS s (edT s.1.1 (swF s.1.1 (pF s.1.1 lo) (pE s.1.1 lo) (pF s.1.1 hi) (pE s.1.1 hi)) (pF s.1.1 lo) (pE s.1.1 hi)) (pF s.1.1 lo) (pE s.1.1 hi), kpN s.1.1 (edT s.1.1 (swF s.1.1 (pF s.1.1 lo) (pE s.1.1 lo) (pF s.1.1 hi) (pE s.1.1 hi)) (pF s.1.1 lo) (pE s.1.1 hi)) (pF s.1.1 lo) (pE s.1.1 hi))
noncomputable def swapS (s : zA) (i j : Int) : zA × Int := if itm (nd (NT (toks s.1.1)) i).1 = true ∧ itm (nd (NT (toks s.1.1)) j).1 = true ∧ i ≠ j then (if i < j then swp s i j else swp s j i) else (s, -1)
theorem swF_len {t : List Int} {fl el fh eh : Int} (h : 0 ≤ fl ∧ fl ≤ el ∧ el ≤ fh ∧ fh ≤ eh ∧ eh ≤ (t.length : Int)) : ((swF t fl el fh eh).length : Int) = eh - fl := by
  unfold swF
  rw [List.length_append, List.length_append]
  have h1 := sub_len (t := t) (a := fh) (b := eh) ⟨by omega, by omega, by omega⟩
  have h2 := sub_len (t := t) (a := el) (b := fh) ⟨by omega, by omega, by omega⟩
  have h3 := sub_len (t := t) (a := fl) (b := el) ⟨by omega, by omega, by omega⟩
  omega
theorem S_swap_lt {i j : Int} (hC : CS s M) (hB : BS s n) (hn : n ≤ 600) (hi : z_i32 i) (hj : z_i32 j) (c1 : itm (nd (NT (toks s.1.1)) i).1 = true) (c2 : itm (nd (NT (toks s.1.1)) j).1 = true) (c4 : i < j) (k : ∀ M', CS (swp s i j).1 M' → z_oR 1 76 M M' → Q (some (0, (swp s i j).2)) M') : v_call L (d + 102) 126 [(2, 1), (0, i), (0, j)] M Q := by
  obtain ⟨h1, -, -, -, h5, h6, -⟩ := id hC
  have hl := hB.1
  have hby := hB.2.2.1
  have hlN : (NT (toks s.1.1)).length ≤ 1216 := h6.1.2.1
  unfold swp at k
  have hin := itm_tk (i := i) (t := s.1.1) (by first | exact c1 | exact c2)
  have hjn := itm_tk (i := j) (t := s.1.1) (by first | exact c1 | exact c2)
  refine v_in ?_
  by_cases w : j < i + (nd (NT (toks s.1.1)) i).2.2.2.1
  · rw [if_pos w] at k
    refine v_load rfl rfl ⟨rfl, Nat.le_of_ble_eq_true rfl⟩ ?_
    refine v_getp rfl rfl rfl ?_
    refine v_load rfl rfl ⟨rfl, Nat.le_of_ble_eq_true rfl⟩ ?_
    refine v_callr rfl ⟨Nat.le_of_ble_eq_true rfl, Nat.le_of_ble_eq_true rfl, rfl, Nat.le_of_ble_eq_true rfl, rfl⟩ ?_
    refine S_isItem h6.1 ?_
    rw [b2i_t c1]
    refine v_ifeq rfl (fun h => absurd h (by decide)) (fun _ => ?_)
    refine v_load rfl rfl ⟨rfl, Nat.le_of_ble_eq_true rfl⟩ ?_
    refine v_getp rfl rfl rfl ?_
    refine v_load rfl rfl ⟨rfl, Nat.le_of_ble_eq_true rfl⟩ ?_
    refine v_callr rfl ⟨Nat.le_of_ble_eq_true rfl, Nat.le_of_ble_eq_true rfl, rfl, Nat.le_of_ble_eq_true rfl, rfl⟩ ?_
    refine S_isItem h6.1 ?_
    rw [b2i_t c2]
    refine v_ifeq rfl (fun h => absurd h (by decide)) (fun _ => ?_)
    refine v_load rfl rfl ⟨rfl, Nat.le_of_ble_eq_true rfl⟩ ?_
    refine v_load rfl rfl ⟨rfl, Nat.le_of_ble_eq_true rfl⟩ ?_
    refine v_ine rfl (fun _ => ?_) (fun h => absurd h (by omega))
    refine v_load rfl rfl ⟨rfl, Nat.le_of_ble_eq_true rfl⟩ ?_
    refine v_load rfl rfl ⟨rfl, Nat.le_of_ble_eq_true rfl⟩ ?_
    refine v_min rfl (show ¬ 4 < 0 by decide) ?_
    rw [if_neg (Int.lt_asymm c4)]
    refine v_store rfl ⟨rfl, Nat.le_of_ble_eq_true rfl, Nat.le_of_ble_eq_true rfl, rfl⟩ rfl ?_
    refine v_load rfl rfl ⟨rfl, Nat.le_of_ble_eq_true rfl⟩ ?_
    refine v_load rfl rfl ⟨rfl, Nat.le_of_ble_eq_true rfl⟩ ?_
    refine v_max rfl (show ¬ 4 < 0 by decide) ?_
    rw [if_pos c4]
    refine v_store rfl ⟨rfl, Nat.le_of_ble_eq_true rfl, Nat.le_of_ble_eq_true rfl, rfl⟩ rfl ?_
    refine v_load rfl rfl ⟨rfl, Nat.le_of_ble_eq_true rfl⟩ ?_
    refine v_getp rfl rfl rfl ?_
    refine v_load rfl rfl ⟨rfl, Nat.le_of_ble_eq_true rfl⟩ ?_
    refine v_load rfl rfl ⟨rfl, Nat.le_of_ble_eq_true rfl⟩ ?_
    refine v_callr rfl ⟨Nat.le_of_ble_eq_true rfl, Nat.le_of_ble_eq_true rfl, rfl, Nat.le_of_ble_eq_true rfl, rfl⟩ ?_
    refine S_within h6.1 hlN hi ?_
    rw [if_pos ⟨by omega, w⟩]
    refine v_ifeq rfl (fun h => absurd h (by decide)) (fun _ => ?_)
    refine v_push rfl ?_
    refine v_ret rfl rfl ?_
    exact k M hC z_oR_rf
  · rw [if_neg w] at k
    have r1 := pF_rng s.1.1 i
    have r2 := pE_rng s.1.1 i
    have r3 := pF_pE (t := s.1.1) i
    have r4 := pE_pF (t := s.1.1) (i := i) (j := j) hin.1 hjn.2.1 ⟨by omega, by omega⟩
    have r5 := pF_pE (t := s.1.1) j
    have r6 := pE_rng s.1.1 j
    have r7 := pF_rng s.1.1 j
    have hfl := swF_len (t := s.1.1) ⟨r1.1, r3, r4, r5, r6.2⟩
    have hel := edT_len (t := s.1.1) (fr := swF s.1.1 (pF s.1.1 i) (pE s.1.1 i) (pF s.1.1 j) (pE s.1.1 j)) (a := pF s.1.1 i) (b := pE s.1.1 j) ⟨r1.1, by omega, r6.2⟩
    have hbe : z_by (edT s.1.1 (swF s.1.1 (pF s.1.1 i) (pE s.1.1 i) (pF s.1.1 j) (pE s.1.1 j)) (pF s.1.1 i) (pE s.1.1 j)) := edT_by hby (z_by_app (z_by_app (z_by_sub hby) (z_by_sub hby)) (z_by_sub hby))
    refine v_load rfl rfl ⟨rfl, Nat.le_of_ble_eq_true rfl⟩ ?_
    refine v_getp rfl rfl rfl ?_
    refine v_load rfl rfl ⟨rfl, Nat.le_of_ble_eq_true rfl⟩ ?_
    refine v_callr rfl ⟨Nat.le_of_ble_eq_true rfl, Nat.le_of_ble_eq_true rfl, rfl, Nat.le_of_ble_eq_true rfl, rfl⟩ ?_
    refine S_isItem h6.1 ?_
    rw [b2i_t c1]
    refine v_ifeq rfl (fun h => absurd h (by decide)) (fun _ => ?_)
    refine v_load rfl rfl ⟨rfl, Nat.le_of_ble_eq_true rfl⟩ ?_
    refine v_getp rfl rfl rfl ?_
    refine v_load rfl rfl ⟨rfl, Nat.le_of_ble_eq_true rfl⟩ ?_
    refine v_callr rfl ⟨Nat.le_of_ble_eq_true rfl, Nat.le_of_ble_eq_true rfl, rfl, Nat.le_of_ble_eq_true rfl, rfl⟩ ?_
    refine S_isItem h6.1 ?_
    rw [b2i_t c2]
    refine v_ifeq rfl (fun h => absurd h (by decide)) (fun _ => ?_)
    refine v_load rfl rfl ⟨rfl, Nat.le_of_ble_eq_true rfl⟩ ?_
    refine v_load rfl rfl ⟨rfl, Nat.le_of_ble_eq_true rfl⟩ ?_
    refine v_ine rfl (fun _ => ?_) (fun h => absurd h (by omega))
    refine v_load rfl rfl ⟨rfl, Nat.le_of_ble_eq_true rfl⟩ ?_
    refine v_load rfl rfl ⟨rfl, Nat.le_of_ble_eq_true rfl⟩ ?_
    refine v_min rfl (show ¬ 4 < 0 by decide) ?_
    rw [if_neg (Int.lt_asymm c4)]
    refine v_store rfl ⟨rfl, Nat.le_of_ble_eq_true rfl, Nat.le_of_ble_eq_true rfl, rfl⟩ rfl ?_
    refine v_load rfl rfl ⟨rfl, Nat.le_of_ble_eq_true rfl⟩ ?_
    refine v_load rfl rfl ⟨rfl, Nat.le_of_ble_eq_true rfl⟩ ?_
    refine v_max rfl (show ¬ 4 < 0 by decide) ?_
    rw [if_pos c4]
    refine v_store rfl ⟨rfl, Nat.le_of_ble_eq_true rfl, Nat.le_of_ble_eq_true rfl, rfl⟩ rfl ?_
    refine v_load rfl rfl ⟨rfl, Nat.le_of_ble_eq_true rfl⟩ ?_
    refine v_getp rfl rfl rfl ?_
    refine v_load rfl rfl ⟨rfl, Nat.le_of_ble_eq_true rfl⟩ ?_
    refine v_load rfl rfl ⟨rfl, Nat.le_of_ble_eq_true rfl⟩ ?_
    refine v_callr rfl ⟨Nat.le_of_ble_eq_true rfl, Nat.le_of_ble_eq_true rfl, rfl, Nat.le_of_ble_eq_true rfl, rfl⟩ ?_
    refine S_within h6.1 hlN hi ?_
    rw [if_neg (fun z => w z.2)]
    refine v_ifeq rfl (fun _ => ?_) (fun h => absurd h (by decide))
    refine v_load rfl rfl ⟨rfl, Nat.le_of_ble_eq_true rfl⟩ ?_
    refine v_getp rfl rfl rfl ?_
    refine v_load rfl rfl ⟨rfl, Nat.le_of_ble_eq_true rfl⟩ ?_
    refine v_callr rfl ⟨Nat.le_of_ble_eq_true rfl, Nat.le_of_ble_eq_true rfl, rfl, Nat.le_of_ble_eq_true rfl, rfl⟩ ?_
    refine S_firstOf h5 h6 hl ?_
    refine v_store rfl ⟨rfl, Nat.le_of_ble_eq_true rfl, Nat.le_of_ble_eq_true rfl, rfl⟩ rfl ?_
    refine v_load rfl rfl ⟨rfl, Nat.le_of_ble_eq_true rfl⟩ ?_
    refine v_getp rfl rfl rfl ?_
    refine v_load rfl rfl ⟨rfl, Nat.le_of_ble_eq_true rfl⟩ ?_
    refine v_callr rfl ⟨Nat.le_of_ble_eq_true rfl, Nat.le_of_ble_eq_true rfl, rfl, Nat.le_of_ble_eq_true rfl, rfl⟩ ?_
    refine S_endOf h1 h5 h6 hl ?_
    refine v_store rfl ⟨rfl, Nat.le_of_ble_eq_true rfl, Nat.le_of_ble_eq_true rfl, rfl⟩ rfl ?_
    refine v_load rfl rfl ⟨rfl, Nat.le_of_ble_eq_true rfl⟩ ?_
    refine v_getp rfl rfl rfl ?_
    refine v_callr rfl ⟨Nat.le_of_ble_eq_true rfl, Nat.le_of_ble_eq_true rfl, rfl, Nat.le_of_ble_eq_true rfl, rfl⟩ ?_
    refine S_dClear (fun M1 d1 o1 => ?_)
    have v1 : BV M1 2 s.1.1 0 := BV_oR h1 o1 (by decide)
    refine v_load rfl rfl ⟨rfl, Nat.le_of_ble_eq_true rfl⟩ ?_
    refine v_getp rfl rfl rfl ?_
    refine v_load rfl rfl ⟨rfl, Nat.le_of_ble_eq_true rfl⟩ ?_
    refine v_getp rfl rfl rfl ?_
    refine v_push rfl ?_
    refine v_load rfl rfl ⟨rfl, Nat.le_of_ble_eq_true rfl⟩ ?_
    refine v_callr rfl ⟨Nat.le_of_ble_eq_true rfl, Nat.le_of_ble_eq_true rfl, rfl, Nat.le_of_ble_eq_true rfl, rfl⟩ ?_
    refine S_dFrom d1 (Or.inl rfl) v1 (by decide) ⟨r1.1, r1.2⟩ (fun M2 d2 o2 => ?_)
    have o12 := z_oR_tr o1 o2
    have v2 : BV M2 2 s.1.1 0 := BV_oR h1 o12 (by decide)
    have q5 := RT_oR h5 o12 (by decide)
    have q6 := TN_oR h6 o12 (by decide)
    refine v_load rfl rfl ⟨rfl, Nat.le_of_ble_eq_true rfl⟩ ?_
    refine v_getp rfl rfl rfl ?_
    refine v_load rfl rfl ⟨rfl, Nat.le_of_ble_eq_true rfl⟩ ?_
    refine v_getp rfl rfl rfl ?_
    refine v_load rfl rfl ⟨rfl, Nat.le_of_ble_eq_true rfl⟩ ?_
    refine v_getp rfl rfl rfl ?_
    refine v_load rfl rfl ⟨rfl, Nat.le_of_ble_eq_true rfl⟩ ?_
    refine v_callr rfl ⟨Nat.le_of_ble_eq_true rfl, Nat.le_of_ble_eq_true rfl, rfl, Nat.le_of_ble_eq_true rfl, rfl⟩ ?_
    refine S_firstOf q5 q6 hl ?_
    refine v_load rfl rfl ⟨rfl, Nat.le_of_ble_eq_true rfl⟩ ?_
    refine v_callr rfl ⟨Nat.le_of_ble_eq_true rfl, Nat.le_of_ble_eq_true rfl, rfl, Nat.le_of_ble_eq_true rfl, rfl⟩ ?_
    refine S_dFrom d2 (Or.inl rfl) v2 r7.1 ⟨r6.1, r6.2⟩ (fun M3 d3 o3 => ?_)
    have o13 := z_oR_tr o12 o3
    have v3 : BV M3 2 s.1.1 0 := BV_oR h1 o13 (by decide)
    have q7 := RT_oR h5 o13 (by decide)
    have q8 := TN_oR h6 o13 (by decide)
    refine v_load rfl rfl ⟨rfl, Nat.le_of_ble_eq_true rfl⟩ ?_
    refine v_getp rfl rfl rfl ?_
    refine v_load rfl rfl ⟨rfl, Nat.le_of_ble_eq_true rfl⟩ ?_
    refine v_getp rfl rfl rfl ?_
    refine v_load rfl rfl ⟨rfl, Nat.le_of_ble_eq_true rfl⟩ ?_
    refine v_getp rfl rfl rfl ?_
    refine v_load rfl rfl ⟨rfl, Nat.le_of_ble_eq_true rfl⟩ ?_
    refine v_callr rfl ⟨Nat.le_of_ble_eq_true rfl, Nat.le_of_ble_eq_true rfl, rfl, Nat.le_of_ble_eq_true rfl, rfl⟩ ?_
    refine S_endOf v3 q7 q8 hl ?_
    refine v_load rfl rfl ⟨rfl, Nat.le_of_ble_eq_true rfl⟩ ?_
    refine v_getp rfl rfl rfl ?_
    refine v_load rfl rfl ⟨rfl, Nat.le_of_ble_eq_true rfl⟩ ?_
    refine v_callr rfl ⟨Nat.le_of_ble_eq_true rfl, Nat.le_of_ble_eq_true rfl, rfl, Nat.le_of_ble_eq_true rfl, rfl⟩ ?_
    refine S_firstOf q7 q8 hl ?_
    refine v_callr rfl ⟨Nat.le_of_ble_eq_true rfl, Nat.le_of_ble_eq_true rfl, rfl, Nat.le_of_ble_eq_true rfl, rfl⟩ ?_
    refine S_dFrom d3 (Or.inl rfl) v3 r2.1 ⟨r7.1, r7.2⟩ (fun M4 d4 o4 => ?_)
    have o14 := z_oR_tr o13 o4
    have v4 : BV M4 2 s.1.1 0 := BV_oR h1 o14 (by decide)
    refine v_load rfl rfl ⟨rfl, Nat.le_of_ble_eq_true rfl⟩ ?_
    refine v_getp rfl rfl rfl ?_
    refine v_load rfl rfl ⟨rfl, Nat.le_of_ble_eq_true rfl⟩ ?_
    refine v_getp rfl rfl rfl ?_
    refine v_load rfl rfl ⟨rfl, Nat.le_of_ble_eq_true rfl⟩ ?_
    refine v_load rfl rfl ⟨rfl, Nat.le_of_ble_eq_true rfl⟩ ?_
    refine v_getp rfl rfl rfl ?_
    refine v_load rfl rfl ⟨rfl, Nat.le_of_ble_eq_true rfl⟩ ?_
    refine v_callr rfl ⟨Nat.le_of_ble_eq_true rfl, Nat.le_of_ble_eq_true rfl, rfl, Nat.le_of_ble_eq_true rfl, rfl⟩ ?_
    refine S_endOf v4 (RT_oR h5 o14 (by decide)) (TN_oR h6 o14 (by decide)) hl ?_
    refine v_callr rfl ⟨Nat.le_of_ble_eq_true rfl, Nat.le_of_ble_eq_true rfl, rfl, Nat.le_of_ble_eq_true rfl, rfl⟩ ?_
    refine S_dFrom d4 (Or.inl rfl) v4 r1.1 ⟨r2.1, r2.2⟩ (fun M5 d5 o5 => ?_)
    have o15 := z_oR_tr o14 o5
    have v5 : BV M5 2 s.1.1 0 := BV_oR h1 o15 (by decide)
    refine v_load rfl rfl ⟨rfl, Nat.le_of_ble_eq_true rfl⟩ ?_
    refine v_getp rfl rfl rfl ?_
    refine v_load rfl rfl ⟨rfl, Nat.le_of_ble_eq_true rfl⟩ ?_
    refine v_getp rfl rfl rfl ?_
    refine v_load rfl rfl ⟨rfl, Nat.le_of_ble_eq_true rfl⟩ ?_
    refine v_load rfl rfl ⟨rfl, Nat.le_of_ble_eq_true rfl⟩ ?_
    refine v_getp rfl rfl rfl ?_
    refine v_callr rfl ⟨Nat.le_of_ble_eq_true rfl, Nat.le_of_ble_eq_true rfl, rfl, Nat.le_of_ble_eq_true rfl, rfl⟩ ?_
    refine S_sizeT z_B2 v5 ?_
    refine v_callr rfl ⟨Nat.le_of_ble_eq_true rfl, Nat.le_of_ble_eq_true rfl, rfl, Nat.le_of_ble_eq_true rfl, rfl⟩ ?_
    refine S_dFrom d5 (Or.inl rfl) v5 r6.1 ⟨by omega, Int.le_refl _⟩ (fun M6 d6 o6 => ?_)
    have o16 := z_oR_tr o15 o6
    have d6' := DRF_ed (t := s.1.1) (fr := swF s.1.1 (pF s.1.1 i) (pE s.1.1 i) (pF s.1.1 j) (pE s.1.1 j)) (a := pF s.1.1 i) (b := pE s.1.1 j) d6 (by rw [sub_0, sub_end]; unfold swF; simp)
    refine v_load rfl rfl ⟨rfl, Nat.le_of_ble_eq_true rfl⟩ ?_
    refine v_load rfl rfl ⟨rfl, Nat.le_of_ble_eq_true rfl⟩ ?_
    refine v_load rfl rfl ⟨rfl, Nat.le_of_ble_eq_true rfl⟩ ?_
    refine v_callr rfl ⟨Nat.le_of_ble_eq_true rfl, Nat.le_of_ble_eq_true rfl, rfl, Nat.le_of_ble_eq_true rfl, rfl⟩ ?_
    refine S_settleS (n := n) (CS_draft hC o16 d6') hB hn (DRF_fit d6' hbe (by omega)) hbe (fun M7 c7 o7 => ?_)
    refine v_ret rfl rfl ?_
    exact k M7 c7 (z_oR_tr (z_oR_w o16 (by decide) (by decide)) o7)
theorem R_swap_lt {i j : Int} (hC : RS s M) (hB : BS s n) (hn : n ≤ 600) (hi : z_i32 i) (hj : z_i32 j) (c1 : itm (nd (NT (toks s.1.1)) i).1 = true) (c2 : itm (nd (NT (toks s.1.1)) j).1 = true) (c4 : i < j) (k : ∀ M', RS (swp s i j).1 M' → z_oR 77 127 M M' → Q (some (0, (swp s i j).2)) M') : v_call L (d + 12) 253 [(2, 77), (0, i), (0, j)] M Q := by
  have hS := hC.1
  have hl := hB.1
  unfold swp at k
  have hin := itm_tk (i := i) (t := s.1.1) (by first | exact c1 | exact c2)
  have hjn := itm_tk (i := j) (t := s.1.1) (by first | exact c1 | exact c2)
  have a1 := itm_in c1
  have a2 := itm_in c2
  have a3 := itm_in (N := NT (toks s.1.1)) (i := i) (by first | exact c1 | exact c2)
  have a4 := itm_in (N := NT (toks s.1.1)) (i := j) (by first | exact c1 | exact c2)
  refine v_in ?_
  by_cases w : j < i + (nd (NT (toks s.1.1)) i).2.2.2.1
  · rw [if_pos w] at k
    refine v_load rfl rfl ⟨rfl, Nat.le_of_ble_eq_true rfl⟩ ?_
    refine v_load rfl rfl ⟨rfl, Nat.le_of_ble_eq_true rfl⟩ ?_
    refine v_callr rfl ⟨Nat.le_of_ble_eq_true rfl, Nat.le_of_ble_eq_true rfl, rfl, Nat.le_of_ble_eq_true rfl, rfl⟩ ?_
    refine R_isItem hS (by first | exact hi | exact hj) ?_
    rw [b2i_t c1]
    refine v_ifeq rfl (fun c7 => ?_) (fun c7 => ?_)
    · refine v_push rfl ?_
      refine v_ret rfl rfl ?_
      first | exact k M hC z_oR_rf | (exfalso; omega)
    · refine v_load rfl rfl ⟨rfl, Nat.le_of_ble_eq_true rfl⟩ ?_
      refine v_load rfl rfl ⟨rfl, Nat.le_of_ble_eq_true rfl⟩ ?_
      refine v_callr rfl ⟨Nat.le_of_ble_eq_true rfl, Nat.le_of_ble_eq_true rfl, rfl, Nat.le_of_ble_eq_true rfl, rfl⟩ ?_
      refine R_isItem hS (by first | exact hi | exact hj) ?_
      rw [b2i_t c2]
      refine v_ifeq rfl (fun c8 => ?_) (fun c8 => ?_)
      · refine v_push rfl ?_
        refine v_ret rfl rfl ?_
        first | exact k M hC z_oR_rf | (exfalso; omega)
      · refine v_load rfl rfl ⟨rfl, Nat.le_of_ble_eq_true rfl⟩ ?_
        refine v_load rfl rfl ⟨rfl, Nat.le_of_ble_eq_true rfl⟩ ?_
        refine v_ine rfl (fun c9 => ?_) (fun c9 => ?_)
        · refine v_load rfl rfl ⟨rfl, Nat.le_of_ble_eq_true rfl⟩ ?_
          refine v_load rfl rfl ⟨rfl, Nat.le_of_ble_eq_true rfl⟩ ?_
          refine v_load rfl rfl ⟨rfl, Nat.le_of_ble_eq_true rfl⟩ ?_
          refine v_callr rfl ⟨Nat.le_of_ble_eq_true rfl, Nat.le_of_ble_eq_true rfl, rfl, Nat.le_of_ble_eq_true rfl, rfl⟩ ?_
          refine R_isInN hS (by first | exact a1 | exact a2) ?_
          refine v_ifne rfl (fun c10 => ?_) (fun c10 => ?_)
          · refine v_push rfl ?_
            refine v_ret rfl rfl ?_
            first | exact k M hC z_oR_rf | (exfalso; omega)
          · refine v_load rfl rfl ⟨rfl, Nat.le_of_ble_eq_true rfl⟩ ?_
            refine v_load rfl rfl ⟨rfl, Nat.le_of_ble_eq_true rfl⟩ ?_
            refine v_load rfl rfl ⟨rfl, Nat.le_of_ble_eq_true rfl⟩ ?_
            refine v_callr rfl ⟨Nat.le_of_ble_eq_true rfl, Nat.le_of_ble_eq_true rfl, rfl, Nat.le_of_ble_eq_true rfl, rfl⟩ ?_
            refine R_isInN hS (by first | exact a1 | exact a2) ?_
            refine v_ifeq rfl (fun c11 => ?_) (fun c11 => ?_)
            · refine v_load rfl rfl ⟨rfl, Nat.le_of_ble_eq_true rfl⟩ ?_
              refine v_load rfl rfl ⟨rfl, Nat.le_of_ble_eq_true rfl⟩ ?_
              refine v_ige rfl (fun c12 => ?_) (fun c12 => ?_)
              · refine v_load rfl rfl ⟨rfl, Nat.le_of_ble_eq_true rfl⟩ ?_
                refine v_store rfl ⟨rfl, Nat.le_of_ble_eq_true rfl, Nat.le_of_ble_eq_true rfl, rfl⟩ rfl ?_
                refine v_load rfl rfl ⟨rfl, Nat.le_of_ble_eq_true rfl⟩ ?_
                refine v_load rfl rfl ⟨rfl, Nat.le_of_ble_eq_true rfl⟩ ?_
                refine v_ige rfl (fun c13 => ?_) (fun c13 => ?_)
                · refine v_load rfl rfl ⟨rfl, Nat.le_of_ble_eq_true rfl⟩ ?_
                  refine v_store rfl ⟨rfl, Nat.le_of_ble_eq_true rfl, Nat.le_of_ble_eq_true rfl, rfl⟩ rfl ?_
                  first | exact k M hC z_oR_rf | (exfalso; omega)
                · refine v_load rfl rfl ⟨rfl, Nat.le_of_ble_eq_true rfl⟩ ?_
                  refine v_goto rfl ?_
                  refine v_store rfl ⟨rfl, Nat.le_of_ble_eq_true rfl, Nat.le_of_ble_eq_true rfl, rfl⟩ rfl ?_
                  first | exact k M hC z_oR_rf | (exfalso; omega)
              · refine v_load rfl rfl ⟨rfl, Nat.le_of_ble_eq_true rfl⟩ ?_
                refine v_goto rfl ?_
                refine v_store rfl ⟨rfl, Nat.le_of_ble_eq_true rfl, Nat.le_of_ble_eq_true rfl, rfl⟩ rfl ?_
                refine v_load rfl rfl ⟨rfl, Nat.le_of_ble_eq_true rfl⟩ ?_
                refine v_load rfl rfl ⟨rfl, Nat.le_of_ble_eq_true rfl⟩ ?_
                refine v_ige rfl (fun c14 => ?_) (fun c14 => ?_)
                · refine v_load rfl rfl ⟨rfl, Nat.le_of_ble_eq_true rfl⟩ ?_
                  refine v_store rfl ⟨rfl, Nat.le_of_ble_eq_true rfl, Nat.le_of_ble_eq_true rfl, rfl⟩ rfl ?_
                  first | exact k M hC z_oR_rf | (exfalso; omega)
                · refine v_load rfl rfl ⟨rfl, Nat.le_of_ble_eq_true rfl⟩ ?_
                  refine v_goto rfl ?_
                  refine v_store rfl ⟨rfl, Nat.le_of_ble_eq_true rfl, Nat.le_of_ble_eq_true rfl, rfl⟩ rfl ?_
                  first | exact k M hC z_oR_rf | (exfalso; omega)
            · refine v_push rfl ?_
              refine v_ret rfl rfl ?_
              first | exact k M hC z_oR_rf | (exfalso; omega)
        · refine v_push rfl ?_
          refine v_ret rfl rfl ?_
          first | exact k M hC z_oR_rf | (exfalso; omega)
  · rw [if_neg w] at k
    have r1 := pF_rng s.1.1 i
    have r2 := pE_rng s.1.1 i
    have r3 := pF_pE (t := s.1.1) i
    have r4 := pE_pF (t := s.1.1) (i := i) (j := j) hin.1 hjn.2.1 ⟨by omega, by omega⟩
    have r5 := pF_pE (t := s.1.1) j
    have r6 := pE_rng s.1.1 j
    have r7 := pF_rng s.1.1 j
    have hfl := swF_len (t := s.1.1) ⟨r1.1, r3, r4, r5, r6.2⟩
    have s1 := sub_len (t := s.1.1) ⟨r7.1, r5, r6.2⟩
    have s2 := sub_len (t := s.1.1) ⟨r2.1, r4, r7.2⟩
    have f0 := RFr_0 (M := M)
    have hC1 := RS_oF hC f0.2
    have fin : v_wp L (d + 12) 253 67 [(2, 77), (0, i), (0, j), (0, i), (0, j)] [] M Q := by
      refine v_load rfl rfl ⟨rfl, Nat.le_of_ble_eq_true rfl⟩ ?_
      refine v_push rfl ?_
      refine v_puti rfl rfl rfl ?_
      refine v_load rfl rfl ⟨rfl, Nat.le_of_ble_eq_true rfl⟩ ?_
      refine v_load rfl rfl ⟨rfl, Nat.le_of_ble_eq_true rfl⟩ ?_
      refine v_load rfl rfl ⟨rfl, Nat.le_of_ble_eq_true rfl⟩ ?_
      refine v_callr rfl ⟨Nat.le_of_ble_eq_true rfl, Nat.le_of_ble_eq_true rfl, rfl, Nat.le_of_ble_eq_true rfl, rfl⟩ ?_
      refine R_from hC1.1 a4 ?_
      refine v_load rfl rfl ⟨rfl, Nat.le_of_ble_eq_true rfl⟩ ?_
      refine v_load rfl rfl ⟨rfl, Nat.le_of_ble_eq_true rfl⟩ ?_
      refine v_callr rfl ⟨Nat.le_of_ble_eq_true rfl, Nat.le_of_ble_eq_true rfl, rfl, Nat.le_of_ble_eq_true rfl, rfl⟩ ?_
      refine R_to hC1.1 a4 ?_
      refine v_callr rfl ⟨Nat.le_of_ble_eq_true rfl, Nat.le_of_ble_eq_true rfl, rfl, Nat.le_of_ble_eq_true rfl, rfl⟩ ?_
      refine R_comeText f0.1 hC1.1.1 ⟨r7.1, r6.2⟩ (by simp; omega) (fun M2 f2 o2 => ?_)
      have hC2 := RS_oF hC1 o2
      refine v_load rfl rfl ⟨rfl, Nat.le_of_ble_eq_true rfl⟩ ?_
      refine v_load rfl rfl ⟨rfl, Nat.le_of_ble_eq_true rfl⟩ ?_
      refine v_load rfl rfl ⟨rfl, Nat.le_of_ble_eq_true rfl⟩ ?_
      refine v_callr rfl ⟨Nat.le_of_ble_eq_true rfl, Nat.le_of_ble_eq_true rfl, rfl, Nat.le_of_ble_eq_true rfl, rfl⟩ ?_
      refine R_to hC2.1 a3 ?_
      refine v_load rfl rfl ⟨rfl, Nat.le_of_ble_eq_true rfl⟩ ?_
      refine v_load rfl rfl ⟨rfl, Nat.le_of_ble_eq_true rfl⟩ ?_
      refine v_callr rfl ⟨Nat.le_of_ble_eq_true rfl, Nat.le_of_ble_eq_true rfl, rfl, Nat.le_of_ble_eq_true rfl, rfl⟩ ?_
      refine R_from hC2.1 a4 ?_
      refine v_callr rfl ⟨Nat.le_of_ble_eq_true rfl, Nat.le_of_ble_eq_true rfl, rfl, Nat.le_of_ble_eq_true rfl, rfl⟩ ?_
      refine R_comeText f2 hC2.1.1 ⟨r2.1, r7.2⟩ (by rw [List.nil_append]; omega) (fun M3 f3 o3 => ?_)
      have hC3 := RS_oF hC2 o3
      refine v_load rfl rfl ⟨rfl, Nat.le_of_ble_eq_true rfl⟩ ?_
      refine v_load rfl rfl ⟨rfl, Nat.le_of_ble_eq_true rfl⟩ ?_
      refine v_load rfl rfl ⟨rfl, Nat.le_of_ble_eq_true rfl⟩ ?_
      refine v_callr rfl ⟨Nat.le_of_ble_eq_true rfl, Nat.le_of_ble_eq_true rfl, rfl, Nat.le_of_ble_eq_true rfl, rfl⟩ ?_
      refine R_from hC3.1 a3 ?_
      refine v_load rfl rfl ⟨rfl, Nat.le_of_ble_eq_true rfl⟩ ?_
      refine v_load rfl rfl ⟨rfl, Nat.le_of_ble_eq_true rfl⟩ ?_
      refine v_callr rfl ⟨Nat.le_of_ble_eq_true rfl, Nat.le_of_ble_eq_true rfl, rfl, Nat.le_of_ble_eq_true rfl, rfl⟩ ?_
      refine R_to hC3.1 a3 ?_
      refine v_callr rfl ⟨Nat.le_of_ble_eq_true rfl, Nat.le_of_ble_eq_true rfl, rfl, Nat.le_of_ble_eq_true rfl, rfl⟩ ?_
      refine R_comeText f3 hC3.1.1 ⟨r1.1, r2.2⟩ (by rw [List.nil_append, List.length_append]; omega) (fun M4 f4 o4 => ?_)
      have hC4 := RS_oF hC3 o4
      refine v_load rfl rfl ⟨rfl, Nat.le_of_ble_eq_true rfl⟩ ?_
      refine v_load rfl rfl ⟨rfl, Nat.le_of_ble_eq_true rfl⟩ ?_
      refine v_load rfl rfl ⟨rfl, Nat.le_of_ble_eq_true rfl⟩ ?_
      refine v_callr rfl ⟨Nat.le_of_ble_eq_true rfl, Nat.le_of_ble_eq_true rfl, rfl, Nat.le_of_ble_eq_true rfl, rfl⟩ ?_
      refine R_from hC4.1 a3 ?_
      refine v_load rfl rfl ⟨rfl, Nat.le_of_ble_eq_true rfl⟩ ?_
      refine v_load rfl rfl ⟨rfl, Nat.le_of_ble_eq_true rfl⟩ ?_
      refine v_callr rfl ⟨Nat.le_of_ble_eq_true rfl, Nat.le_of_ble_eq_true rfl, rfl, Nat.le_of_ble_eq_true rfl, rfl⟩ ?_
      refine R_to hC4.1 a4 ?_
      refine v_callr rfl ⟨Nat.le_of_ble_eq_true rfl, Nat.le_of_ble_eq_true rfl, rfl, Nat.le_of_ble_eq_true rfl, rfl⟩ ?_
      refine R_editsS (fr := swF s.1.1 (pF s.1.1 i) (pE s.1.1 i) (pF s.1.1 j) (pE s.1.1 j)) hC4 hB hn f4 ⟨r1.1, by omega, r6.2⟩ (by omega) (fun M5 c5 e5 o5 => ?_)
      refine v_load rfl rfl ⟨rfl, Nat.le_of_ble_eq_true rfl⟩ ?_
      refine v_getx rfl rfl (e5) ?_
      refine v_ret rfl rfl ?_
      exact k M5 c5 (z_oR_tr (oF_R (oF_tr f0.2 (oF_tr o2 (oF_tr o3 o4)))) o5)
    refine v_load rfl rfl ⟨rfl, Nat.le_of_ble_eq_true rfl⟩ ?_
    refine v_load rfl rfl ⟨rfl, Nat.le_of_ble_eq_true rfl⟩ ?_
    refine v_callr rfl ⟨Nat.le_of_ble_eq_true rfl, Nat.le_of_ble_eq_true rfl, rfl, Nat.le_of_ble_eq_true rfl, rfl⟩ ?_
    refine R_isItem hS (by first | exact hi | exact hj) ?_
    rw [b2i_t c1]
    refine v_ifeq rfl (fun c15 => ?_) (fun c15 => ?_)
    · refine v_push rfl ?_
      refine v_ret rfl rfl ?_
      first | exact fin | (exfalso; omega)
    · refine v_load rfl rfl ⟨rfl, Nat.le_of_ble_eq_true rfl⟩ ?_
      refine v_load rfl rfl ⟨rfl, Nat.le_of_ble_eq_true rfl⟩ ?_
      refine v_callr rfl ⟨Nat.le_of_ble_eq_true rfl, Nat.le_of_ble_eq_true rfl, rfl, Nat.le_of_ble_eq_true rfl, rfl⟩ ?_
      refine R_isItem hS (by first | exact hi | exact hj) ?_
      rw [b2i_t c2]
      refine v_ifeq rfl (fun c16 => ?_) (fun c16 => ?_)
      · refine v_push rfl ?_
        refine v_ret rfl rfl ?_
        first | exact fin | (exfalso; omega)
      · refine v_load rfl rfl ⟨rfl, Nat.le_of_ble_eq_true rfl⟩ ?_
        refine v_load rfl rfl ⟨rfl, Nat.le_of_ble_eq_true rfl⟩ ?_
        refine v_ine rfl (fun c17 => ?_) (fun c17 => ?_)
        · refine v_load rfl rfl ⟨rfl, Nat.le_of_ble_eq_true rfl⟩ ?_
          refine v_load rfl rfl ⟨rfl, Nat.le_of_ble_eq_true rfl⟩ ?_
          refine v_load rfl rfl ⟨rfl, Nat.le_of_ble_eq_true rfl⟩ ?_
          refine v_callr rfl ⟨Nat.le_of_ble_eq_true rfl, Nat.le_of_ble_eq_true rfl, rfl, Nat.le_of_ble_eq_true rfl, rfl⟩ ?_
          refine R_isInN hS (by first | exact a1 | exact a2) ?_
          refine v_ifne rfl (fun c18 => ?_) (fun c18 => ?_)
          · refine v_push rfl ?_
            refine v_ret rfl rfl ?_
            first | exact fin | (exfalso; omega)
          · refine v_load rfl rfl ⟨rfl, Nat.le_of_ble_eq_true rfl⟩ ?_
            refine v_load rfl rfl ⟨rfl, Nat.le_of_ble_eq_true rfl⟩ ?_
            refine v_load rfl rfl ⟨rfl, Nat.le_of_ble_eq_true rfl⟩ ?_
            refine v_callr rfl ⟨Nat.le_of_ble_eq_true rfl, Nat.le_of_ble_eq_true rfl, rfl, Nat.le_of_ble_eq_true rfl, rfl⟩ ?_
            refine R_isInN hS (by first | exact a1 | exact a2) ?_
            refine v_ifeq rfl (fun c19 => ?_) (fun c19 => ?_)
            · refine v_load rfl rfl ⟨rfl, Nat.le_of_ble_eq_true rfl⟩ ?_
              refine v_load rfl rfl ⟨rfl, Nat.le_of_ble_eq_true rfl⟩ ?_
              refine v_ige rfl (fun c20 => ?_) (fun c20 => ?_)
              · refine v_load rfl rfl ⟨rfl, Nat.le_of_ble_eq_true rfl⟩ ?_
                refine v_store rfl ⟨rfl, Nat.le_of_ble_eq_true rfl, Nat.le_of_ble_eq_true rfl, rfl⟩ rfl ?_
                refine v_load rfl rfl ⟨rfl, Nat.le_of_ble_eq_true rfl⟩ ?_
                refine v_load rfl rfl ⟨rfl, Nat.le_of_ble_eq_true rfl⟩ ?_
                refine v_ige rfl (fun c21 => ?_) (fun c21 => ?_)
                · refine v_load rfl rfl ⟨rfl, Nat.le_of_ble_eq_true rfl⟩ ?_
                  refine v_store rfl ⟨rfl, Nat.le_of_ble_eq_true rfl, Nat.le_of_ble_eq_true rfl, rfl⟩ rfl ?_
                  first | exact fin | (exfalso; omega)
                · refine v_load rfl rfl ⟨rfl, Nat.le_of_ble_eq_true rfl⟩ ?_
                  refine v_goto rfl ?_
                  refine v_store rfl ⟨rfl, Nat.le_of_ble_eq_true rfl, Nat.le_of_ble_eq_true rfl, rfl⟩ rfl ?_
                  first | exact fin | (exfalso; omega)
              · refine v_load rfl rfl ⟨rfl, Nat.le_of_ble_eq_true rfl⟩ ?_
                refine v_goto rfl ?_
                refine v_store rfl ⟨rfl, Nat.le_of_ble_eq_true rfl, Nat.le_of_ble_eq_true rfl, rfl⟩ rfl ?_
                refine v_load rfl rfl ⟨rfl, Nat.le_of_ble_eq_true rfl⟩ ?_
                refine v_load rfl rfl ⟨rfl, Nat.le_of_ble_eq_true rfl⟩ ?_
                refine v_ige rfl (fun c22 => ?_) (fun c22 => ?_)
                · refine v_load rfl rfl ⟨rfl, Nat.le_of_ble_eq_true rfl⟩ ?_
                  refine v_store rfl ⟨rfl, Nat.le_of_ble_eq_true rfl, Nat.le_of_ble_eq_true rfl, rfl⟩ rfl ?_
                  first | exact fin | (exfalso; omega)
                · refine v_load rfl rfl ⟨rfl, Nat.le_of_ble_eq_true rfl⟩ ?_
                  refine v_goto rfl ?_
                  refine v_store rfl ⟨rfl, Nat.le_of_ble_eq_true rfl, Nat.le_of_ble_eq_true rfl, rfl⟩ rfl ?_
                  first | exact fin | (exfalso; omega)
            · refine v_push rfl ?_
              refine v_ret rfl rfl ?_
              first | exact fin | (exfalso; omega)
        · refine v_push rfl ?_
          refine v_ret rfl rfl ?_
          first | exact fin | (exfalso; omega)
theorem S_swap_gt {i j : Int} (hC : CS s M) (hB : BS s n) (hn : n ≤ 600) (hi : z_i32 i) (hj : z_i32 j) (c1 : itm (nd (NT (toks s.1.1)) i).1 = true) (c2 : itm (nd (NT (toks s.1.1)) j).1 = true) (c4 : j < i) (k : ∀ M', CS (swp s j i).1 M' → z_oR 1 76 M M' → Q (some (0, (swp s j i).2)) M') : v_call L (d + 102) 126 [(2, 1), (0, i), (0, j)] M Q := by
  obtain ⟨h1, -, -, -, h5, h6, -⟩ := id hC
  have hl := hB.1
  have hby := hB.2.2.1
  have hlN : (NT (toks s.1.1)).length ≤ 1216 := h6.1.2.1
  unfold swp at k
  have hin := itm_tk (i := j) (t := s.1.1) (by first | exact c1 | exact c2)
  have hjn := itm_tk (i := i) (t := s.1.1) (by first | exact c1 | exact c2)
  refine v_in ?_
  by_cases w : i < j + (nd (NT (toks s.1.1)) j).2.2.2.1
  · rw [if_pos w] at k
    refine v_load rfl rfl ⟨rfl, Nat.le_of_ble_eq_true rfl⟩ ?_
    refine v_getp rfl rfl rfl ?_
    refine v_load rfl rfl ⟨rfl, Nat.le_of_ble_eq_true rfl⟩ ?_
    refine v_callr rfl ⟨Nat.le_of_ble_eq_true rfl, Nat.le_of_ble_eq_true rfl, rfl, Nat.le_of_ble_eq_true rfl, rfl⟩ ?_
    refine S_isItem h6.1 ?_
    rw [b2i_t c1]
    refine v_ifeq rfl (fun h => absurd h (by decide)) (fun _ => ?_)
    refine v_load rfl rfl ⟨rfl, Nat.le_of_ble_eq_true rfl⟩ ?_
    refine v_getp rfl rfl rfl ?_
    refine v_load rfl rfl ⟨rfl, Nat.le_of_ble_eq_true rfl⟩ ?_
    refine v_callr rfl ⟨Nat.le_of_ble_eq_true rfl, Nat.le_of_ble_eq_true rfl, rfl, Nat.le_of_ble_eq_true rfl, rfl⟩ ?_
    refine S_isItem h6.1 ?_
    rw [b2i_t c2]
    refine v_ifeq rfl (fun h => absurd h (by decide)) (fun _ => ?_)
    refine v_load rfl rfl ⟨rfl, Nat.le_of_ble_eq_true rfl⟩ ?_
    refine v_load rfl rfl ⟨rfl, Nat.le_of_ble_eq_true rfl⟩ ?_
    refine v_ine rfl (fun _ => ?_) (fun h => absurd h (by omega))
    refine v_load rfl rfl ⟨rfl, Nat.le_of_ble_eq_true rfl⟩ ?_
    refine v_load rfl rfl ⟨rfl, Nat.le_of_ble_eq_true rfl⟩ ?_
    refine v_min rfl (show ¬ 4 < 0 by decide) ?_
    rw [if_pos c4]
    refine v_store rfl ⟨rfl, Nat.le_of_ble_eq_true rfl, Nat.le_of_ble_eq_true rfl, rfl⟩ rfl ?_
    refine v_load rfl rfl ⟨rfl, Nat.le_of_ble_eq_true rfl⟩ ?_
    refine v_load rfl rfl ⟨rfl, Nat.le_of_ble_eq_true rfl⟩ ?_
    refine v_max rfl (show ¬ 4 < 0 by decide) ?_
    rw [if_neg (Int.lt_asymm c4)]
    refine v_store rfl ⟨rfl, Nat.le_of_ble_eq_true rfl, Nat.le_of_ble_eq_true rfl, rfl⟩ rfl ?_
    refine v_load rfl rfl ⟨rfl, Nat.le_of_ble_eq_true rfl⟩ ?_
    refine v_getp rfl rfl rfl ?_
    refine v_load rfl rfl ⟨rfl, Nat.le_of_ble_eq_true rfl⟩ ?_
    refine v_load rfl rfl ⟨rfl, Nat.le_of_ble_eq_true rfl⟩ ?_
    refine v_callr rfl ⟨Nat.le_of_ble_eq_true rfl, Nat.le_of_ble_eq_true rfl, rfl, Nat.le_of_ble_eq_true rfl, rfl⟩ ?_
    refine S_within h6.1 hlN hj ?_
    rw [if_pos ⟨by omega, w⟩]
    refine v_ifeq rfl (fun h => absurd h (by decide)) (fun _ => ?_)
    refine v_push rfl ?_
    refine v_ret rfl rfl ?_
    exact k M hC z_oR_rf
  · rw [if_neg w] at k
    have r1 := pF_rng s.1.1 j
    have r2 := pE_rng s.1.1 j
    have r3 := pF_pE (t := s.1.1) j
    have r4 := pE_pF (t := s.1.1) (i := j) (j := i) hin.1 hjn.2.1 ⟨by omega, by omega⟩
    have r5 := pF_pE (t := s.1.1) i
    have r6 := pE_rng s.1.1 i
    have r7 := pF_rng s.1.1 i
    have hfl := swF_len (t := s.1.1) ⟨r1.1, r3, r4, r5, r6.2⟩
    have hel := edT_len (t := s.1.1) (fr := swF s.1.1 (pF s.1.1 j) (pE s.1.1 j) (pF s.1.1 i) (pE s.1.1 i)) (a := pF s.1.1 j) (b := pE s.1.1 i) ⟨r1.1, by omega, r6.2⟩
    have hbe : z_by (edT s.1.1 (swF s.1.1 (pF s.1.1 j) (pE s.1.1 j) (pF s.1.1 i) (pE s.1.1 i)) (pF s.1.1 j) (pE s.1.1 i)) := edT_by hby (z_by_app (z_by_app (z_by_sub hby) (z_by_sub hby)) (z_by_sub hby))
    refine v_load rfl rfl ⟨rfl, Nat.le_of_ble_eq_true rfl⟩ ?_
    refine v_getp rfl rfl rfl ?_
    refine v_load rfl rfl ⟨rfl, Nat.le_of_ble_eq_true rfl⟩ ?_
    refine v_callr rfl ⟨Nat.le_of_ble_eq_true rfl, Nat.le_of_ble_eq_true rfl, rfl, Nat.le_of_ble_eq_true rfl, rfl⟩ ?_
    refine S_isItem h6.1 ?_
    rw [b2i_t c1]
    refine v_ifeq rfl (fun h => absurd h (by decide)) (fun _ => ?_)
    refine v_load rfl rfl ⟨rfl, Nat.le_of_ble_eq_true rfl⟩ ?_
    refine v_getp rfl rfl rfl ?_
    refine v_load rfl rfl ⟨rfl, Nat.le_of_ble_eq_true rfl⟩ ?_
    refine v_callr rfl ⟨Nat.le_of_ble_eq_true rfl, Nat.le_of_ble_eq_true rfl, rfl, Nat.le_of_ble_eq_true rfl, rfl⟩ ?_
    refine S_isItem h6.1 ?_
    rw [b2i_t c2]
    refine v_ifeq rfl (fun h => absurd h (by decide)) (fun _ => ?_)
    refine v_load rfl rfl ⟨rfl, Nat.le_of_ble_eq_true rfl⟩ ?_
    refine v_load rfl rfl ⟨rfl, Nat.le_of_ble_eq_true rfl⟩ ?_
    refine v_ine rfl (fun _ => ?_) (fun h => absurd h (by omega))
    refine v_load rfl rfl ⟨rfl, Nat.le_of_ble_eq_true rfl⟩ ?_
    refine v_load rfl rfl ⟨rfl, Nat.le_of_ble_eq_true rfl⟩ ?_
    refine v_min rfl (show ¬ 4 < 0 by decide) ?_
    rw [if_pos c4]
    refine v_store rfl ⟨rfl, Nat.le_of_ble_eq_true rfl, Nat.le_of_ble_eq_true rfl, rfl⟩ rfl ?_
    refine v_load rfl rfl ⟨rfl, Nat.le_of_ble_eq_true rfl⟩ ?_
    refine v_load rfl rfl ⟨rfl, Nat.le_of_ble_eq_true rfl⟩ ?_
    refine v_max rfl (show ¬ 4 < 0 by decide) ?_
    rw [if_neg (Int.lt_asymm c4)]
    refine v_store rfl ⟨rfl, Nat.le_of_ble_eq_true rfl, Nat.le_of_ble_eq_true rfl, rfl⟩ rfl ?_
    refine v_load rfl rfl ⟨rfl, Nat.le_of_ble_eq_true rfl⟩ ?_
    refine v_getp rfl rfl rfl ?_
    refine v_load rfl rfl ⟨rfl, Nat.le_of_ble_eq_true rfl⟩ ?_
    refine v_load rfl rfl ⟨rfl, Nat.le_of_ble_eq_true rfl⟩ ?_
    refine v_callr rfl ⟨Nat.le_of_ble_eq_true rfl, Nat.le_of_ble_eq_true rfl, rfl, Nat.le_of_ble_eq_true rfl, rfl⟩ ?_
    refine S_within h6.1 hlN hj ?_
    rw [if_neg (fun z => w z.2)]
    refine v_ifeq rfl (fun _ => ?_) (fun h => absurd h (by decide))
    refine v_load rfl rfl ⟨rfl, Nat.le_of_ble_eq_true rfl⟩ ?_
    refine v_getp rfl rfl rfl ?_
    refine v_load rfl rfl ⟨rfl, Nat.le_of_ble_eq_true rfl⟩ ?_
    refine v_callr rfl ⟨Nat.le_of_ble_eq_true rfl, Nat.le_of_ble_eq_true rfl, rfl, Nat.le_of_ble_eq_true rfl, rfl⟩ ?_
    refine S_firstOf h5 h6 hl ?_
    refine v_store rfl ⟨rfl, Nat.le_of_ble_eq_true rfl, Nat.le_of_ble_eq_true rfl, rfl⟩ rfl ?_
    refine v_load rfl rfl ⟨rfl, Nat.le_of_ble_eq_true rfl⟩ ?_
    refine v_getp rfl rfl rfl ?_
    refine v_load rfl rfl ⟨rfl, Nat.le_of_ble_eq_true rfl⟩ ?_
    refine v_callr rfl ⟨Nat.le_of_ble_eq_true rfl, Nat.le_of_ble_eq_true rfl, rfl, Nat.le_of_ble_eq_true rfl, rfl⟩ ?_
    refine S_endOf h1 h5 h6 hl ?_
    refine v_store rfl ⟨rfl, Nat.le_of_ble_eq_true rfl, Nat.le_of_ble_eq_true rfl, rfl⟩ rfl ?_
    refine v_load rfl rfl ⟨rfl, Nat.le_of_ble_eq_true rfl⟩ ?_
    refine v_getp rfl rfl rfl ?_
    refine v_callr rfl ⟨Nat.le_of_ble_eq_true rfl, Nat.le_of_ble_eq_true rfl, rfl, Nat.le_of_ble_eq_true rfl, rfl⟩ ?_
    refine S_dClear (fun M1 d1 o1 => ?_)
    have v1 : BV M1 2 s.1.1 0 := BV_oR h1 o1 (by decide)
    refine v_load rfl rfl ⟨rfl, Nat.le_of_ble_eq_true rfl⟩ ?_
    refine v_getp rfl rfl rfl ?_
    refine v_load rfl rfl ⟨rfl, Nat.le_of_ble_eq_true rfl⟩ ?_
    refine v_getp rfl rfl rfl ?_
    refine v_push rfl ?_
    refine v_load rfl rfl ⟨rfl, Nat.le_of_ble_eq_true rfl⟩ ?_
    refine v_callr rfl ⟨Nat.le_of_ble_eq_true rfl, Nat.le_of_ble_eq_true rfl, rfl, Nat.le_of_ble_eq_true rfl, rfl⟩ ?_
    refine S_dFrom d1 (Or.inl rfl) v1 (by decide) ⟨r1.1, r1.2⟩ (fun M2 d2 o2 => ?_)
    have o12 := z_oR_tr o1 o2
    have v2 : BV M2 2 s.1.1 0 := BV_oR h1 o12 (by decide)
    have q5 := RT_oR h5 o12 (by decide)
    have q6 := TN_oR h6 o12 (by decide)
    refine v_load rfl rfl ⟨rfl, Nat.le_of_ble_eq_true rfl⟩ ?_
    refine v_getp rfl rfl rfl ?_
    refine v_load rfl rfl ⟨rfl, Nat.le_of_ble_eq_true rfl⟩ ?_
    refine v_getp rfl rfl rfl ?_
    refine v_load rfl rfl ⟨rfl, Nat.le_of_ble_eq_true rfl⟩ ?_
    refine v_getp rfl rfl rfl ?_
    refine v_load rfl rfl ⟨rfl, Nat.le_of_ble_eq_true rfl⟩ ?_
    refine v_callr rfl ⟨Nat.le_of_ble_eq_true rfl, Nat.le_of_ble_eq_true rfl, rfl, Nat.le_of_ble_eq_true rfl, rfl⟩ ?_
    refine S_firstOf q5 q6 hl ?_
    refine v_load rfl rfl ⟨rfl, Nat.le_of_ble_eq_true rfl⟩ ?_
    refine v_callr rfl ⟨Nat.le_of_ble_eq_true rfl, Nat.le_of_ble_eq_true rfl, rfl, Nat.le_of_ble_eq_true rfl, rfl⟩ ?_
    refine S_dFrom d2 (Or.inl rfl) v2 r7.1 ⟨r6.1, r6.2⟩ (fun M3 d3 o3 => ?_)
    have o13 := z_oR_tr o12 o3
    have v3 : BV M3 2 s.1.1 0 := BV_oR h1 o13 (by decide)
    have q7 := RT_oR h5 o13 (by decide)
    have q8 := TN_oR h6 o13 (by decide)
    refine v_load rfl rfl ⟨rfl, Nat.le_of_ble_eq_true rfl⟩ ?_
    refine v_getp rfl rfl rfl ?_
    refine v_load rfl rfl ⟨rfl, Nat.le_of_ble_eq_true rfl⟩ ?_
    refine v_getp rfl rfl rfl ?_
    refine v_load rfl rfl ⟨rfl, Nat.le_of_ble_eq_true rfl⟩ ?_
    refine v_getp rfl rfl rfl ?_
    refine v_load rfl rfl ⟨rfl, Nat.le_of_ble_eq_true rfl⟩ ?_
    refine v_callr rfl ⟨Nat.le_of_ble_eq_true rfl, Nat.le_of_ble_eq_true rfl, rfl, Nat.le_of_ble_eq_true rfl, rfl⟩ ?_
    refine S_endOf v3 q7 q8 hl ?_
    refine v_load rfl rfl ⟨rfl, Nat.le_of_ble_eq_true rfl⟩ ?_
    refine v_getp rfl rfl rfl ?_
    refine v_load rfl rfl ⟨rfl, Nat.le_of_ble_eq_true rfl⟩ ?_
    refine v_callr rfl ⟨Nat.le_of_ble_eq_true rfl, Nat.le_of_ble_eq_true rfl, rfl, Nat.le_of_ble_eq_true rfl, rfl⟩ ?_
    refine S_firstOf q7 q8 hl ?_
    refine v_callr rfl ⟨Nat.le_of_ble_eq_true rfl, Nat.le_of_ble_eq_true rfl, rfl, Nat.le_of_ble_eq_true rfl, rfl⟩ ?_
    refine S_dFrom d3 (Or.inl rfl) v3 r2.1 ⟨r7.1, r7.2⟩ (fun M4 d4 o4 => ?_)
    have o14 := z_oR_tr o13 o4
    have v4 : BV M4 2 s.1.1 0 := BV_oR h1 o14 (by decide)
    refine v_load rfl rfl ⟨rfl, Nat.le_of_ble_eq_true rfl⟩ ?_
    refine v_getp rfl rfl rfl ?_
    refine v_load rfl rfl ⟨rfl, Nat.le_of_ble_eq_true rfl⟩ ?_
    refine v_getp rfl rfl rfl ?_
    refine v_load rfl rfl ⟨rfl, Nat.le_of_ble_eq_true rfl⟩ ?_
    refine v_load rfl rfl ⟨rfl, Nat.le_of_ble_eq_true rfl⟩ ?_
    refine v_getp rfl rfl rfl ?_
    refine v_load rfl rfl ⟨rfl, Nat.le_of_ble_eq_true rfl⟩ ?_
    refine v_callr rfl ⟨Nat.le_of_ble_eq_true rfl, Nat.le_of_ble_eq_true rfl, rfl, Nat.le_of_ble_eq_true rfl, rfl⟩ ?_
    refine S_endOf v4 (RT_oR h5 o14 (by decide)) (TN_oR h6 o14 (by decide)) hl ?_
    refine v_callr rfl ⟨Nat.le_of_ble_eq_true rfl, Nat.le_of_ble_eq_true rfl, rfl, Nat.le_of_ble_eq_true rfl, rfl⟩ ?_
    refine S_dFrom d4 (Or.inl rfl) v4 r1.1 ⟨r2.1, r2.2⟩ (fun M5 d5 o5 => ?_)
    have o15 := z_oR_tr o14 o5
    have v5 : BV M5 2 s.1.1 0 := BV_oR h1 o15 (by decide)
    refine v_load rfl rfl ⟨rfl, Nat.le_of_ble_eq_true rfl⟩ ?_
    refine v_getp rfl rfl rfl ?_
    refine v_load rfl rfl ⟨rfl, Nat.le_of_ble_eq_true rfl⟩ ?_
    refine v_getp rfl rfl rfl ?_
    refine v_load rfl rfl ⟨rfl, Nat.le_of_ble_eq_true rfl⟩ ?_
    refine v_load rfl rfl ⟨rfl, Nat.le_of_ble_eq_true rfl⟩ ?_
    refine v_getp rfl rfl rfl ?_
    refine v_callr rfl ⟨Nat.le_of_ble_eq_true rfl, Nat.le_of_ble_eq_true rfl, rfl, Nat.le_of_ble_eq_true rfl, rfl⟩ ?_
    refine S_sizeT z_B2 v5 ?_
    refine v_callr rfl ⟨Nat.le_of_ble_eq_true rfl, Nat.le_of_ble_eq_true rfl, rfl, Nat.le_of_ble_eq_true rfl, rfl⟩ ?_
    refine S_dFrom d5 (Or.inl rfl) v5 r6.1 ⟨by omega, Int.le_refl _⟩ (fun M6 d6 o6 => ?_)
    have o16 := z_oR_tr o15 o6
    have d6' := DRF_ed (t := s.1.1) (fr := swF s.1.1 (pF s.1.1 j) (pE s.1.1 j) (pF s.1.1 i) (pE s.1.1 i)) (a := pF s.1.1 j) (b := pE s.1.1 i) d6 (by rw [sub_0, sub_end]; unfold swF; simp)
    refine v_load rfl rfl ⟨rfl, Nat.le_of_ble_eq_true rfl⟩ ?_
    refine v_load rfl rfl ⟨rfl, Nat.le_of_ble_eq_true rfl⟩ ?_
    refine v_load rfl rfl ⟨rfl, Nat.le_of_ble_eq_true rfl⟩ ?_
    refine v_callr rfl ⟨Nat.le_of_ble_eq_true rfl, Nat.le_of_ble_eq_true rfl, rfl, Nat.le_of_ble_eq_true rfl, rfl⟩ ?_
    refine S_settleS (n := n) (CS_draft hC o16 d6') hB hn (DRF_fit d6' hbe (by omega)) hbe (fun M7 c7 o7 => ?_)
    refine v_ret rfl rfl ?_
    exact k M7 c7 (z_oR_tr (z_oR_w o16 (by decide) (by decide)) o7)
theorem R_swap_gt {i j : Int} (hC : RS s M) (hB : BS s n) (hn : n ≤ 600) (hi : z_i32 i) (hj : z_i32 j) (c1 : itm (nd (NT (toks s.1.1)) i).1 = true) (c2 : itm (nd (NT (toks s.1.1)) j).1 = true) (c4 : j < i) (k : ∀ M', RS (swp s j i).1 M' → z_oR 77 127 M M' → Q (some (0, (swp s j i).2)) M') : v_call L (d + 12) 253 [(2, 77), (0, i), (0, j)] M Q := by
  have hS := hC.1
  have hl := hB.1
  unfold swp at k
  have hin := itm_tk (i := j) (t := s.1.1) (by first | exact c1 | exact c2)
  have hjn := itm_tk (i := i) (t := s.1.1) (by first | exact c1 | exact c2)
  have a1 := itm_in c1
  have a2 := itm_in c2
  have a3 := itm_in (N := NT (toks s.1.1)) (i := j) (by first | exact c1 | exact c2)
  have a4 := itm_in (N := NT (toks s.1.1)) (i := i) (by first | exact c1 | exact c2)
  refine v_in ?_
  by_cases w : i < j + (nd (NT (toks s.1.1)) j).2.2.2.1
  · rw [if_pos w] at k
    refine v_load rfl rfl ⟨rfl, Nat.le_of_ble_eq_true rfl⟩ ?_
    refine v_load rfl rfl ⟨rfl, Nat.le_of_ble_eq_true rfl⟩ ?_
    refine v_callr rfl ⟨Nat.le_of_ble_eq_true rfl, Nat.le_of_ble_eq_true rfl, rfl, Nat.le_of_ble_eq_true rfl, rfl⟩ ?_
    refine R_isItem hS (by first | exact hi | exact hj) ?_
    rw [b2i_t c1]
    refine v_ifeq rfl (fun c23 => ?_) (fun c23 => ?_)
    · refine v_push rfl ?_
      refine v_ret rfl rfl ?_
      first | exact k M hC z_oR_rf | (exfalso; omega)
    · refine v_load rfl rfl ⟨rfl, Nat.le_of_ble_eq_true rfl⟩ ?_
      refine v_load rfl rfl ⟨rfl, Nat.le_of_ble_eq_true rfl⟩ ?_
      refine v_callr rfl ⟨Nat.le_of_ble_eq_true rfl, Nat.le_of_ble_eq_true rfl, rfl, Nat.le_of_ble_eq_true rfl, rfl⟩ ?_
      refine R_isItem hS (by first | exact hi | exact hj) ?_
      rw [b2i_t c2]
      refine v_ifeq rfl (fun c24 => ?_) (fun c24 => ?_)
      · refine v_push rfl ?_
        refine v_ret rfl rfl ?_
        first | exact k M hC z_oR_rf | (exfalso; omega)
      · refine v_load rfl rfl ⟨rfl, Nat.le_of_ble_eq_true rfl⟩ ?_
        refine v_load rfl rfl ⟨rfl, Nat.le_of_ble_eq_true rfl⟩ ?_
        refine v_ine rfl (fun c25 => ?_) (fun c25 => ?_)
        · refine v_load rfl rfl ⟨rfl, Nat.le_of_ble_eq_true rfl⟩ ?_
          refine v_load rfl rfl ⟨rfl, Nat.le_of_ble_eq_true rfl⟩ ?_
          refine v_load rfl rfl ⟨rfl, Nat.le_of_ble_eq_true rfl⟩ ?_
          refine v_callr rfl ⟨Nat.le_of_ble_eq_true rfl, Nat.le_of_ble_eq_true rfl, rfl, Nat.le_of_ble_eq_true rfl, rfl⟩ ?_
          refine R_isInN hS (by first | exact a1 | exact a2) ?_
          refine v_ifne rfl (fun c26 => ?_) (fun c26 => ?_)
          · refine v_push rfl ?_
            refine v_ret rfl rfl ?_
            first | exact k M hC z_oR_rf | (exfalso; omega)
          · refine v_load rfl rfl ⟨rfl, Nat.le_of_ble_eq_true rfl⟩ ?_
            refine v_load rfl rfl ⟨rfl, Nat.le_of_ble_eq_true rfl⟩ ?_
            refine v_load rfl rfl ⟨rfl, Nat.le_of_ble_eq_true rfl⟩ ?_
            refine v_callr rfl ⟨Nat.le_of_ble_eq_true rfl, Nat.le_of_ble_eq_true rfl, rfl, Nat.le_of_ble_eq_true rfl, rfl⟩ ?_
            refine R_isInN hS (by first | exact a1 | exact a2) ?_
            refine v_ifeq rfl (fun c27 => ?_) (fun c27 => ?_)
            · refine v_load rfl rfl ⟨rfl, Nat.le_of_ble_eq_true rfl⟩ ?_
              refine v_load rfl rfl ⟨rfl, Nat.le_of_ble_eq_true rfl⟩ ?_
              refine v_ige rfl (fun c28 => ?_) (fun c28 => ?_)
              · refine v_load rfl rfl ⟨rfl, Nat.le_of_ble_eq_true rfl⟩ ?_
                refine v_store rfl ⟨rfl, Nat.le_of_ble_eq_true rfl, Nat.le_of_ble_eq_true rfl, rfl⟩ rfl ?_
                refine v_load rfl rfl ⟨rfl, Nat.le_of_ble_eq_true rfl⟩ ?_
                refine v_load rfl rfl ⟨rfl, Nat.le_of_ble_eq_true rfl⟩ ?_
                refine v_ige rfl (fun c29 => ?_) (fun c29 => ?_)
                · refine v_load rfl rfl ⟨rfl, Nat.le_of_ble_eq_true rfl⟩ ?_
                  refine v_store rfl ⟨rfl, Nat.le_of_ble_eq_true rfl, Nat.le_of_ble_eq_true rfl, rfl⟩ rfl ?_
                  first | exact k M hC z_oR_rf | (exfalso; omega)
                · refine v_load rfl rfl ⟨rfl, Nat.le_of_ble_eq_true rfl⟩ ?_
                  refine v_goto rfl ?_
                  refine v_store rfl ⟨rfl, Nat.le_of_ble_eq_true rfl, Nat.le_of_ble_eq_true rfl, rfl⟩ rfl ?_
                  first | exact k M hC z_oR_rf | (exfalso; omega)
              · refine v_load rfl rfl ⟨rfl, Nat.le_of_ble_eq_true rfl⟩ ?_
                refine v_goto rfl ?_
                refine v_store rfl ⟨rfl, Nat.le_of_ble_eq_true rfl, Nat.le_of_ble_eq_true rfl, rfl⟩ rfl ?_
                refine v_load rfl rfl ⟨rfl, Nat.le_of_ble_eq_true rfl⟩ ?_
                refine v_load rfl rfl ⟨rfl, Nat.le_of_ble_eq_true rfl⟩ ?_
                refine v_ige rfl (fun c30 => ?_) (fun c30 => ?_)
                · refine v_load rfl rfl ⟨rfl, Nat.le_of_ble_eq_true rfl⟩ ?_
                  refine v_store rfl ⟨rfl, Nat.le_of_ble_eq_true rfl, Nat.le_of_ble_eq_true rfl, rfl⟩ rfl ?_
                  first | exact k M hC z_oR_rf | (exfalso; omega)
                · refine v_load rfl rfl ⟨rfl, Nat.le_of_ble_eq_true rfl⟩ ?_
                  refine v_goto rfl ?_
                  refine v_store rfl ⟨rfl, Nat.le_of_ble_eq_true rfl, Nat.le_of_ble_eq_true rfl, rfl⟩ rfl ?_
                  first | exact k M hC z_oR_rf | (exfalso; omega)
            · refine v_push rfl ?_
              refine v_ret rfl rfl ?_
              first | exact k M hC z_oR_rf | (exfalso; omega)
        · refine v_push rfl ?_
          refine v_ret rfl rfl ?_
          first | exact k M hC z_oR_rf | (exfalso; omega)
  · rw [if_neg w] at k
    have r1 := pF_rng s.1.1 j
    have r2 := pE_rng s.1.1 j
    have r3 := pF_pE (t := s.1.1) j
    have r4 := pE_pF (t := s.1.1) (i := j) (j := i) hin.1 hjn.2.1 ⟨by omega, by omega⟩
    have r5 := pF_pE (t := s.1.1) i
    have r6 := pE_rng s.1.1 i
    have r7 := pF_rng s.1.1 i
    have hfl := swF_len (t := s.1.1) ⟨r1.1, r3, r4, r5, r6.2⟩
    have s1 := sub_len (t := s.1.1) ⟨r7.1, r5, r6.2⟩
    have s2 := sub_len (t := s.1.1) ⟨r2.1, r4, r7.2⟩
    have f0 := RFr_0 (M := M)
    have hC1 := RS_oF hC f0.2
    have fin : v_wp L (d + 12) 253 67 [(2, 77), (0, i), (0, j), (0, j), (0, i)] [] M Q := by
      refine v_load rfl rfl ⟨rfl, Nat.le_of_ble_eq_true rfl⟩ ?_
      refine v_push rfl ?_
      refine v_puti rfl rfl rfl ?_
      refine v_load rfl rfl ⟨rfl, Nat.le_of_ble_eq_true rfl⟩ ?_
      refine v_load rfl rfl ⟨rfl, Nat.le_of_ble_eq_true rfl⟩ ?_
      refine v_load rfl rfl ⟨rfl, Nat.le_of_ble_eq_true rfl⟩ ?_
      refine v_callr rfl ⟨Nat.le_of_ble_eq_true rfl, Nat.le_of_ble_eq_true rfl, rfl, Nat.le_of_ble_eq_true rfl, rfl⟩ ?_
      refine R_from hC1.1 a4 ?_
      refine v_load rfl rfl ⟨rfl, Nat.le_of_ble_eq_true rfl⟩ ?_
      refine v_load rfl rfl ⟨rfl, Nat.le_of_ble_eq_true rfl⟩ ?_
      refine v_callr rfl ⟨Nat.le_of_ble_eq_true rfl, Nat.le_of_ble_eq_true rfl, rfl, Nat.le_of_ble_eq_true rfl, rfl⟩ ?_
      refine R_to hC1.1 a4 ?_
      refine v_callr rfl ⟨Nat.le_of_ble_eq_true rfl, Nat.le_of_ble_eq_true rfl, rfl, Nat.le_of_ble_eq_true rfl, rfl⟩ ?_
      refine R_comeText f0.1 hC1.1.1 ⟨r7.1, r6.2⟩ (by simp; omega) (fun M2 f2 o2 => ?_)
      have hC2 := RS_oF hC1 o2
      refine v_load rfl rfl ⟨rfl, Nat.le_of_ble_eq_true rfl⟩ ?_
      refine v_load rfl rfl ⟨rfl, Nat.le_of_ble_eq_true rfl⟩ ?_
      refine v_load rfl rfl ⟨rfl, Nat.le_of_ble_eq_true rfl⟩ ?_
      refine v_callr rfl ⟨Nat.le_of_ble_eq_true rfl, Nat.le_of_ble_eq_true rfl, rfl, Nat.le_of_ble_eq_true rfl, rfl⟩ ?_
      refine R_to hC2.1 a3 ?_
      refine v_load rfl rfl ⟨rfl, Nat.le_of_ble_eq_true rfl⟩ ?_
      refine v_load rfl rfl ⟨rfl, Nat.le_of_ble_eq_true rfl⟩ ?_
      refine v_callr rfl ⟨Nat.le_of_ble_eq_true rfl, Nat.le_of_ble_eq_true rfl, rfl, Nat.le_of_ble_eq_true rfl, rfl⟩ ?_
      refine R_from hC2.1 a4 ?_
      refine v_callr rfl ⟨Nat.le_of_ble_eq_true rfl, Nat.le_of_ble_eq_true rfl, rfl, Nat.le_of_ble_eq_true rfl, rfl⟩ ?_
      refine R_comeText f2 hC2.1.1 ⟨r2.1, r7.2⟩ (by rw [List.nil_append]; omega) (fun M3 f3 o3 => ?_)
      have hC3 := RS_oF hC2 o3
      refine v_load rfl rfl ⟨rfl, Nat.le_of_ble_eq_true rfl⟩ ?_
      refine v_load rfl rfl ⟨rfl, Nat.le_of_ble_eq_true rfl⟩ ?_
      refine v_load rfl rfl ⟨rfl, Nat.le_of_ble_eq_true rfl⟩ ?_
      refine v_callr rfl ⟨Nat.le_of_ble_eq_true rfl, Nat.le_of_ble_eq_true rfl, rfl, Nat.le_of_ble_eq_true rfl, rfl⟩ ?_
      refine R_from hC3.1 a3 ?_
      refine v_load rfl rfl ⟨rfl, Nat.le_of_ble_eq_true rfl⟩ ?_
      refine v_load rfl rfl ⟨rfl, Nat.le_of_ble_eq_true rfl⟩ ?_
      refine v_callr rfl ⟨Nat.le_of_ble_eq_true rfl, Nat.le_of_ble_eq_true rfl, rfl, Nat.le_of_ble_eq_true rfl, rfl⟩ ?_
      refine R_to hC3.1 a3 ?_
      refine v_callr rfl ⟨Nat.le_of_ble_eq_true rfl, Nat.le_of_ble_eq_true rfl, rfl, Nat.le_of_ble_eq_true rfl, rfl⟩ ?_
      refine R_comeText f3 hC3.1.1 ⟨r1.1, r2.2⟩ (by rw [List.nil_append, List.length_append]; omega) (fun M4 f4 o4 => ?_)
      have hC4 := RS_oF hC3 o4
      refine v_load rfl rfl ⟨rfl, Nat.le_of_ble_eq_true rfl⟩ ?_
      refine v_load rfl rfl ⟨rfl, Nat.le_of_ble_eq_true rfl⟩ ?_
      refine v_load rfl rfl ⟨rfl, Nat.le_of_ble_eq_true rfl⟩ ?_
      refine v_callr rfl ⟨Nat.le_of_ble_eq_true rfl, Nat.le_of_ble_eq_true rfl, rfl, Nat.le_of_ble_eq_true rfl, rfl⟩ ?_
      refine R_from hC4.1 a3 ?_
      refine v_load rfl rfl ⟨rfl, Nat.le_of_ble_eq_true rfl⟩ ?_
      refine v_load rfl rfl ⟨rfl, Nat.le_of_ble_eq_true rfl⟩ ?_
      refine v_callr rfl ⟨Nat.le_of_ble_eq_true rfl, Nat.le_of_ble_eq_true rfl, rfl, Nat.le_of_ble_eq_true rfl, rfl⟩ ?_
      refine R_to hC4.1 a4 ?_
      refine v_callr rfl ⟨Nat.le_of_ble_eq_true rfl, Nat.le_of_ble_eq_true rfl, rfl, Nat.le_of_ble_eq_true rfl, rfl⟩ ?_
      refine R_editsS (fr := swF s.1.1 (pF s.1.1 j) (pE s.1.1 j) (pF s.1.1 i) (pE s.1.1 i)) hC4 hB hn f4 ⟨r1.1, by omega, r6.2⟩ (by omega) (fun M5 c5 e5 o5 => ?_)
      refine v_load rfl rfl ⟨rfl, Nat.le_of_ble_eq_true rfl⟩ ?_
      refine v_getx rfl rfl (e5) ?_
      refine v_ret rfl rfl ?_
      exact k M5 c5 (z_oR_tr (oF_R (oF_tr f0.2 (oF_tr o2 (oF_tr o3 o4)))) o5)
    refine v_load rfl rfl ⟨rfl, Nat.le_of_ble_eq_true rfl⟩ ?_
    refine v_load rfl rfl ⟨rfl, Nat.le_of_ble_eq_true rfl⟩ ?_
    refine v_callr rfl ⟨Nat.le_of_ble_eq_true rfl, Nat.le_of_ble_eq_true rfl, rfl, Nat.le_of_ble_eq_true rfl, rfl⟩ ?_
    refine R_isItem hS (by first | exact hi | exact hj) ?_
    rw [b2i_t c1]
    refine v_ifeq rfl (fun c31 => ?_) (fun c31 => ?_)
    · refine v_push rfl ?_
      refine v_ret rfl rfl ?_
      first | exact fin | (exfalso; omega)
    · refine v_load rfl rfl ⟨rfl, Nat.le_of_ble_eq_true rfl⟩ ?_
      refine v_load rfl rfl ⟨rfl, Nat.le_of_ble_eq_true rfl⟩ ?_
      refine v_callr rfl ⟨Nat.le_of_ble_eq_true rfl, Nat.le_of_ble_eq_true rfl, rfl, Nat.le_of_ble_eq_true rfl, rfl⟩ ?_
      refine R_isItem hS (by first | exact hi | exact hj) ?_
      rw [b2i_t c2]
      refine v_ifeq rfl (fun c32 => ?_) (fun c32 => ?_)
      · refine v_push rfl ?_
        refine v_ret rfl rfl ?_
        first | exact fin | (exfalso; omega)
      · refine v_load rfl rfl ⟨rfl, Nat.le_of_ble_eq_true rfl⟩ ?_
        refine v_load rfl rfl ⟨rfl, Nat.le_of_ble_eq_true rfl⟩ ?_
        refine v_ine rfl (fun c33 => ?_) (fun c33 => ?_)
        · refine v_load rfl rfl ⟨rfl, Nat.le_of_ble_eq_true rfl⟩ ?_
          refine v_load rfl rfl ⟨rfl, Nat.le_of_ble_eq_true rfl⟩ ?_
          refine v_load rfl rfl ⟨rfl, Nat.le_of_ble_eq_true rfl⟩ ?_
          refine v_callr rfl ⟨Nat.le_of_ble_eq_true rfl, Nat.le_of_ble_eq_true rfl, rfl, Nat.le_of_ble_eq_true rfl, rfl⟩ ?_
          refine R_isInN hS (by first | exact a1 | exact a2) ?_
          refine v_ifne rfl (fun c34 => ?_) (fun c34 => ?_)
          · refine v_push rfl ?_
            refine v_ret rfl rfl ?_
            first | exact fin | (exfalso; omega)
          · refine v_load rfl rfl ⟨rfl, Nat.le_of_ble_eq_true rfl⟩ ?_
            refine v_load rfl rfl ⟨rfl, Nat.le_of_ble_eq_true rfl⟩ ?_
            refine v_load rfl rfl ⟨rfl, Nat.le_of_ble_eq_true rfl⟩ ?_
            refine v_callr rfl ⟨Nat.le_of_ble_eq_true rfl, Nat.le_of_ble_eq_true rfl, rfl, Nat.le_of_ble_eq_true rfl, rfl⟩ ?_
            refine R_isInN hS (by first | exact a1 | exact a2) ?_
            refine v_ifeq rfl (fun c35 => ?_) (fun c35 => ?_)
            · refine v_load rfl rfl ⟨rfl, Nat.le_of_ble_eq_true rfl⟩ ?_
              refine v_load rfl rfl ⟨rfl, Nat.le_of_ble_eq_true rfl⟩ ?_
              refine v_ige rfl (fun c36 => ?_) (fun c36 => ?_)
              · refine v_load rfl rfl ⟨rfl, Nat.le_of_ble_eq_true rfl⟩ ?_
                refine v_store rfl ⟨rfl, Nat.le_of_ble_eq_true rfl, Nat.le_of_ble_eq_true rfl, rfl⟩ rfl ?_
                refine v_load rfl rfl ⟨rfl, Nat.le_of_ble_eq_true rfl⟩ ?_
                refine v_load rfl rfl ⟨rfl, Nat.le_of_ble_eq_true rfl⟩ ?_
                refine v_ige rfl (fun c37 => ?_) (fun c37 => ?_)
                · refine v_load rfl rfl ⟨rfl, Nat.le_of_ble_eq_true rfl⟩ ?_
                  refine v_store rfl ⟨rfl, Nat.le_of_ble_eq_true rfl, Nat.le_of_ble_eq_true rfl, rfl⟩ rfl ?_
                  first | exact fin | (exfalso; omega)
                · refine v_load rfl rfl ⟨rfl, Nat.le_of_ble_eq_true rfl⟩ ?_
                  refine v_goto rfl ?_
                  refine v_store rfl ⟨rfl, Nat.le_of_ble_eq_true rfl, Nat.le_of_ble_eq_true rfl, rfl⟩ rfl ?_
                  first | exact fin | (exfalso; omega)
              · refine v_load rfl rfl ⟨rfl, Nat.le_of_ble_eq_true rfl⟩ ?_
                refine v_goto rfl ?_
                refine v_store rfl ⟨rfl, Nat.le_of_ble_eq_true rfl, Nat.le_of_ble_eq_true rfl, rfl⟩ rfl ?_
                refine v_load rfl rfl ⟨rfl, Nat.le_of_ble_eq_true rfl⟩ ?_
                refine v_load rfl rfl ⟨rfl, Nat.le_of_ble_eq_true rfl⟩ ?_
                refine v_ige rfl (fun c38 => ?_) (fun c38 => ?_)
                · refine v_load rfl rfl ⟨rfl, Nat.le_of_ble_eq_true rfl⟩ ?_
                  refine v_store rfl ⟨rfl, Nat.le_of_ble_eq_true rfl, Nat.le_of_ble_eq_true rfl, rfl⟩ rfl ?_
                  first | exact fin | (exfalso; omega)
                · refine v_load rfl rfl ⟨rfl, Nat.le_of_ble_eq_true rfl⟩ ?_
                  refine v_goto rfl ?_
                  refine v_store rfl ⟨rfl, Nat.le_of_ble_eq_true rfl, Nat.le_of_ble_eq_true rfl, rfl⟩ rfl ?_
                  first | exact fin | (exfalso; omega)
            · refine v_push rfl ?_
              refine v_ret rfl rfl ?_
              first | exact fin | (exfalso; omega)
        · refine v_push rfl ?_
          refine v_ret rfl rfl ?_
          first | exact fin | (exfalso; omega)
theorem S_swap {i j : Int} (hC : CS s M) (hB : BS s n) (hn : n ≤ 600) (hi : z_i32 i) (hj : z_i32 j) (k : ∀ M', CS (swapS s i j).1 M' → z_oR 1 76 M M' → Q (some (0, (swapS s i j).2)) M') : v_call L (d + 102) 126 [(2, 1), (0, i), (0, j)] M Q := by
  have h6 := hC.2.2.2.2.2.1
  unfold swapS at k
  by_cases c : itm (nd (NT (toks s.1.1)) i).1 = true ∧ itm (nd (NT (toks s.1.1)) j).1 = true ∧ i ≠ j
  · rw [if_pos c] at k
    by_cases c4 : i < j
    · rw [if_pos c4] at k; exact S_swap_lt hC hB hn hi hj c.1 c.2.1 c4 k
    · rw [if_neg c4] at k; exact S_swap_gt hC hB hn hi hj c.1 c.2.1 (by have := c.2.2; omega) k
  · rw [if_neg c] at k
    refine v_in ?_
    by_cases c1 : itm (nd (NT (toks s.1.1)) i).1 = true
    · by_cases c2 : itm (nd (NT (toks s.1.1)) j).1 = true
      · have c3 : i = j := by
          by_cases e : i = j
          · exact e
          · exact absurd ⟨c1, c2, e⟩ c
        refine v_load rfl rfl ⟨rfl, Nat.le_of_ble_eq_true rfl⟩ ?_
        refine v_getp rfl rfl rfl ?_
        refine v_load rfl rfl ⟨rfl, Nat.le_of_ble_eq_true rfl⟩ ?_
        refine v_callr rfl ⟨Nat.le_of_ble_eq_true rfl, Nat.le_of_ble_eq_true rfl, rfl, Nat.le_of_ble_eq_true rfl, rfl⟩ ?_
        refine S_isItem h6.1 ?_
        rw [b2i_t c1]
        refine v_ifeq rfl (fun h => absurd h (by decide)) (fun _ => ?_)
        refine v_load rfl rfl ⟨rfl, Nat.le_of_ble_eq_true rfl⟩ ?_
        refine v_getp rfl rfl rfl ?_
        refine v_load rfl rfl ⟨rfl, Nat.le_of_ble_eq_true rfl⟩ ?_
        refine v_callr rfl ⟨Nat.le_of_ble_eq_true rfl, Nat.le_of_ble_eq_true rfl, rfl, Nat.le_of_ble_eq_true rfl, rfl⟩ ?_
        refine S_isItem h6.1 ?_
        rw [b2i_t c2]
        refine v_ifeq rfl (fun h => absurd h (by decide)) (fun _ => ?_)
        refine v_load rfl rfl ⟨rfl, Nat.le_of_ble_eq_true rfl⟩ ?_
        refine v_load rfl rfl ⟨rfl, Nat.le_of_ble_eq_true rfl⟩ ?_
        refine v_ine rfl (fun h => absurd h (by omega)) (fun _ => ?_)
        refine v_push rfl ?_
        refine v_ret rfl rfl ?_
        exact k M hC z_oR_rf
      · refine v_load rfl rfl ⟨rfl, Nat.le_of_ble_eq_true rfl⟩ ?_
        refine v_getp rfl rfl rfl ?_
        refine v_load rfl rfl ⟨rfl, Nat.le_of_ble_eq_true rfl⟩ ?_
        refine v_callr rfl ⟨Nat.le_of_ble_eq_true rfl, Nat.le_of_ble_eq_true rfl, rfl, Nat.le_of_ble_eq_true rfl, rfl⟩ ?_
        refine S_isItem h6.1 ?_
        rw [b2i_t c1]
        refine v_ifeq rfl (fun h => absurd h (by decide)) (fun _ => ?_)
        refine v_load rfl rfl ⟨rfl, Nat.le_of_ble_eq_true rfl⟩ ?_
        refine v_getp rfl rfl rfl ?_
        refine v_load rfl rfl ⟨rfl, Nat.le_of_ble_eq_true rfl⟩ ?_
        refine v_callr rfl ⟨Nat.le_of_ble_eq_true rfl, Nat.le_of_ble_eq_true rfl, rfl, Nat.le_of_ble_eq_true rfl, rfl⟩ ?_
        refine S_isItem h6.1 ?_
        rw [b2i_f c2]
        refine v_ifeq rfl (fun _ => ?_) (fun h => absurd h (by decide))
        refine v_push rfl ?_
        refine v_ret rfl rfl ?_
        exact k M hC z_oR_rf
    · refine v_load rfl rfl ⟨rfl, Nat.le_of_ble_eq_true rfl⟩ ?_
      refine v_getp rfl rfl rfl ?_
      refine v_load rfl rfl ⟨rfl, Nat.le_of_ble_eq_true rfl⟩ ?_
      refine v_callr rfl ⟨Nat.le_of_ble_eq_true rfl, Nat.le_of_ble_eq_true rfl, rfl, Nat.le_of_ble_eq_true rfl, rfl⟩ ?_
      refine S_isItem h6.1 ?_
      rw [b2i_f c1]
      refine v_ifeq rfl (fun _ => ?_) (fun h => absurd h (by decide))
      refine v_push rfl ?_
      refine v_ret rfl rfl ?_
      exact k M hC z_oR_rf
theorem R_swap {i j : Int} (hC : RS s M) (hB : BS s n) (hn : n ≤ 600) (hi : z_i32 i) (hj : z_i32 j) (k : ∀ M', RS (swapS s i j).1 M' → z_oR 77 127 M M' → Q (some (0, (swapS s i j).2)) M') : v_call L (d + 12) 253 [(2, 77), (0, i), (0, j)] M Q := by
  have hS := hC.1
  unfold swapS at k
  by_cases c : itm (nd (NT (toks s.1.1)) i).1 = true ∧ itm (nd (NT (toks s.1.1)) j).1 = true ∧ i ≠ j
  · rw [if_pos c] at k
    by_cases c4 : i < j
    · rw [if_pos c4] at k; exact R_swap_lt hC hB hn hi hj c.1 c.2.1 c4 k
    · rw [if_neg c4] at k; exact R_swap_gt hC hB hn hi hj c.1 c.2.1 (by have := c.2.2; omega) k
  · rw [if_neg c] at k
    refine v_in ?_
    by_cases c1 : itm (nd (NT (toks s.1.1)) i).1 = true
    · by_cases c2 : itm (nd (NT (toks s.1.1)) j).1 = true
      · have c3 : i = j := by
          by_cases e : i = j
          · exact e
          · exact absurd ⟨c1, c2, e⟩ c
        refine v_load rfl rfl ⟨rfl, Nat.le_of_ble_eq_true rfl⟩ ?_
        refine v_load rfl rfl ⟨rfl, Nat.le_of_ble_eq_true rfl⟩ ?_
        refine v_callr rfl ⟨Nat.le_of_ble_eq_true rfl, Nat.le_of_ble_eq_true rfl, rfl, Nat.le_of_ble_eq_true rfl, rfl⟩ ?_
        refine R_isItem hS hi ?_
        rw [b2i_t c1]
        refine v_ifeq rfl (fun h => absurd h (by decide)) (fun _ => ?_)
        refine v_load rfl rfl ⟨rfl, Nat.le_of_ble_eq_true rfl⟩ ?_
        refine v_load rfl rfl ⟨rfl, Nat.le_of_ble_eq_true rfl⟩ ?_
        refine v_callr rfl ⟨Nat.le_of_ble_eq_true rfl, Nat.le_of_ble_eq_true rfl, rfl, Nat.le_of_ble_eq_true rfl, rfl⟩ ?_
        refine R_isItem hS hj ?_
        rw [b2i_t c2]
        refine v_ifeq rfl (fun h => absurd h (by decide)) (fun _ => ?_)
        refine v_load rfl rfl ⟨rfl, Nat.le_of_ble_eq_true rfl⟩ ?_
        refine v_load rfl rfl ⟨rfl, Nat.le_of_ble_eq_true rfl⟩ ?_
        refine v_ine rfl (fun h => absurd h (by omega)) (fun _ => ?_)
        refine v_push rfl ?_
        refine v_ret rfl rfl ?_
        exact k M hC z_oR_rf
      · refine v_load rfl rfl ⟨rfl, Nat.le_of_ble_eq_true rfl⟩ ?_
        refine v_load rfl rfl ⟨rfl, Nat.le_of_ble_eq_true rfl⟩ ?_
        refine v_callr rfl ⟨Nat.le_of_ble_eq_true rfl, Nat.le_of_ble_eq_true rfl, rfl, Nat.le_of_ble_eq_true rfl, rfl⟩ ?_
        refine R_isItem hS hi ?_
        rw [b2i_t c1]
        refine v_ifeq rfl (fun h => absurd h (by decide)) (fun _ => ?_)
        refine v_load rfl rfl ⟨rfl, Nat.le_of_ble_eq_true rfl⟩ ?_
        refine v_load rfl rfl ⟨rfl, Nat.le_of_ble_eq_true rfl⟩ ?_
        refine v_callr rfl ⟨Nat.le_of_ble_eq_true rfl, Nat.le_of_ble_eq_true rfl, rfl, Nat.le_of_ble_eq_true rfl, rfl⟩ ?_
        refine R_isItem hS hj ?_
        rw [b2i_f c2]
        refine v_ifeq rfl (fun _ => ?_) (fun h => absurd h (by decide))
        refine v_push rfl ?_
        refine v_ret rfl rfl ?_
        exact k M hC z_oR_rf
    · refine v_load rfl rfl ⟨rfl, Nat.le_of_ble_eq_true rfl⟩ ?_
      refine v_load rfl rfl ⟨rfl, Nat.le_of_ble_eq_true rfl⟩ ?_
      refine v_callr rfl ⟨Nat.le_of_ble_eq_true rfl, Nat.le_of_ble_eq_true rfl, rfl, Nat.le_of_ble_eq_true rfl, rfl⟩ ?_
      refine R_isItem hS hi ?_
      rw [b2i_f c1]
      refine v_ifeq rfl (fun _ => ?_) (fun h => absurd h (by decide))
      refine v_push rfl ?_
      refine v_ret rfl rfl ?_
      exact k M hC z_oR_rf
end A5
