/-! FACTS of nodes and tokens that the keeping needs; the reference remembers, forgets -/
theorem NT_bd {T : List zT} (hT : tkOK T) {i : Nat} (hi : i < (NT T).length) : 0 ≤ ((NT T).getD i n0).2.2.2.2.2.1 ∧ 0 ≤ ((NT T).getD i n0).2.2.2.2.2.2.1 ∧ ((NT T).getD i n0).2.2.2.2.2.1 + ((NT T).getD i n0).2.2.2.2.2.2.1 ≤ (T.length : Int) := by
  rcases NT_all hT hi with ⟨-, h⟩ | ⟨-, h⟩
  · rw [h]
    refine ⟨by show (0 : Int) ≤ 0; decide, by show (0 : Int) ≤ (T.length : Int); omega, by show (0 : Int) + (T.length : Int) ≤ _; omega⟩
  · exact cv_bd (top_cv hT).1 (qN ((NT T).getD i n0)) h
theorem cv_mono {T : List zT} {a b : Int} {ts : List (List zN)} (h : cv T a ts b) : (ts.flatten).Pairwise (fun x y => x.2.2.2.1 ≤ y.2.2.2.1) := by
  refine cv_ind (C := fun a ts b => (ts.flatten).Pairwise (fun x y => x.2.2.2.1 ≤ y.2.2.2.1)) h (fun _ => List.Pairwise.nil) ?_ ?_ ?_
  · intro a so sg ts b hl hct ih
    show ((so, (0 : Int), (1 : Int), a, a + 1 - a, sg) :: ts.flatten).Pairwise _
    refine List.pairwise_cons.mpr ⟨fun y hy => ?_, ih⟩
    have := cv_bd hct y hy
    show a ≤ _
    omega
  · intro a sg ts b hs hct ih
    show ((17, (0 : Int), (1 : Int), a, a + 0 - a, sg) :: ts.flatten).Pairwise _
    refine List.pairwise_cons.mpr ⟨fun y hy => ?_, ih⟩
    have := cv_bd hct y hy
    show a ≤ _
    omega
  · intro a m so cs ts b hne hsh hc1 hc2 i1 i2
    have hl1 := cv_le hc1
    show ((so, (cs.length : Int), (cs.flatten.length : Int) + 1, a, m - a, (0 : Int)) :: (cs.flatten ++ ts.flatten)).Pairwise _
    refine List.pairwise_cons.mpr ⟨fun y hy => ?_, List.pairwise_append.mpr ⟨i1, i2, fun x hx y hy => ?_⟩⟩
    · show a ≤ _
      rcases List.mem_append.mp hy with hy | hy
      · have := cv_bd hc1 y hy; omega
      · have := cv_bd hc2 y hy; omega
    · have := cv_bd hc1 x hx
      have := cv_bd hc2 y hy
      omega
theorem NT_mono {T : List zT} (hT : tkOK T) : ∀ x y : Nat, x ≤ y → y < (NT T).length → ((NT T).getD x n0).2.2.2.2.2.1 ≤ ((NT T).getD y n0).2.2.2.2.2.1 := by
  intro x y hxy hy
  by_cases e : x = y
  · rw [e]; exact Int.le_refl _
  obtain ⟨tcv, twf⟩ := top_cv hT
  have hm : (NT T).map qN = topN T := (lay_map twf (-1) 1 0).trans (by simp)
  have hp : (topN T).Pairwise (fun x y => x.2.2.2.1 ≤ y.2.2.2.1) := by
    show ((0, ((bal (itemsOf T)).length : Int), ((bal (itemsOf T)).flatten.length : Int) + 1, (0 : Int), (T.length : Int) - 0, (0 : Int)) :: (bal (itemsOf T)).flatten).Pairwise _
    refine List.pairwise_cons.mpr ⟨fun y hy => ?_, cv_mono tcv⟩
    have := cv_bd tcv y hy
    show (0 : Int) ≤ _
    omega
  rw [← hm, List.pairwise_map] at hp
  have := (List.pairwise_iff_getElem.mp hp) x y (by omega) hy (by omega)
  rw [List.getD_eq_getElem?_getD, List.getD_eq_getElem?_getD, List.getElem?_eq_getElem hy, List.getElem?_eq_getElem (show x < (NT T).length by omega)]
  exact this
theorem toks_at {t : List Int} {i : Nat} (hi : i < (toks t).length) : tq t ((toks t).getD i t0) := by
  have := tq_at (t := t) (i := (i : Int)) ⟨by omega, by omega⟩
  rw [tk_in ⟨by omega, by omega⟩, Int.toNat_natCast] at this
  exact this
theorem toks_lt {t : List Int} {i j : Nat} (hij : i < j) (hj : j < (toks t).length) : ((toks t).getD i t0).2.2.1 ≤ ((toks t).getD j t0).2.1 := by
  have := tq_ord (t := t) (i := (i : Int)) (j := (j : Int)) (by omega) (by omega) (by omega)
  rw [tk_in ⟨by omega, by omega⟩, tk_in ⟨by omega, by omega⟩, Int.toNat_natCast, Int.toNat_natCast] at this
  exact this
theorem toks_inj {t : List Int} {i j : Nat} (hi : i < (toks t).length) (hj : j < (toks t).length) (e : ((toks t).getD i t0).2.1 = ((toks t).getD j t0).2.1) : i = j := by
  have h1 := (toks_at hi).1
  have h2 := (toks_at hj).1
  by_cases c : i < j
  · have := toks_lt c hj; omega
  · by_cases c2 : j < i
    · have := toks_lt c2 hi; omega
    · omega
theorem olT_eq {t : List Int} (hl : t.length ≤ 300) {o : Nat} (ho : o < (toks t).length) : olT (toks t) ((toks t).getD o t0).2.1 = (o : Int) := by
  have h1 := (toks_at ho).1
  unfold olT
  rw [if_pos ⟨by omega, by omega⟩]
  rcases lastI_ok (fstT (toks t) ((toks t).getD o t0).2.1) (toks t).length with ⟨-, h⟩ | ⟨i, hi, e, h2, -⟩
  · have := h o ho
    unfold fstT at this
    rw [decide_eq_true rfl] at this
    cases this
  · rw [e]
    have h3 : ((toks t).getD i t0).2.1 = ((toks t).getD o t0).2.1 := by unfold fstT at h2; exact of_decide_eq_true h2
    rw [toks_inj hi ho h3]
/-- the reference's likeness -/
def lkP (T0 T1 : List zT) (a b more : Int) (i o : Nat) : Prop := (T1.getD i t0).1 = (T0.getD o t0).1 ∧ (T1.getD i t0).2.2.1 - (T1.getD i t0).2.1 = (T0.getD o t0).2.2.1 - (T0.getD o t0).2.1 ∧ (((T0.getD o t0).2.2.2.1 < a ∧ (T1.getD i t0).2.1 = (T0.getD o t0).2.1) ∨ (¬ (T0.getD o t0).2.2.2.1 < a ∧ b ≤ (T0.getD o t0).2.1 ∧ (T1.getD i t0).2.1 = (T0.getD o t0).2.1 + more))
theorem lk_og {t : List Int} (hl : t.length ≤ 300) {T1 : List zT} {a b more : Int} {i o : Nat} (ho : o < (toks t).length) (hab : a ≤ b) (hm : a - b ≤ more) (h : lkP (toks t) T1 a b more i o) : og (toks t) T1 a b more i = (o : Int) := by
  obtain ⟨h1, h2, h3⟩ := h
  have hq := (toks_at ho).1
  have he := olT_eq hl ho
  rcases h3 with ⟨c1, c2⟩ | ⟨c1, c2, c3⟩
  · have hlt : (T1.getD i t0).2.1 < a := by omega
    unfold og
    rw [if_pos hlt, c2, he, Int.toNat_natCast, if_pos ⟨by omega, h1.symm, by omega, c1⟩]
  · have hlt : ¬ (T1.getD i t0).2.1 < a := by omega
    unfold og
    rw [if_neg hlt, if_neg (by omega), show (T1.getD i t0).2.1 - more = ((toks t).getD o t0).2.1 by omega, he, Int.toNat_natCast, if_pos ⟨by omega, h1.symm, by omega⟩]
theorem og_lk {t : List Int} {T1 : List zT} {a b more : Int} {i : Nat} (hab : a ≤ b) (h : og (toks t) T1 a b more i ≠ -1) : (og (toks t) T1 a b more i).toNat < (toks t).length ∧ lkP (toks t) T1 a b more i (og (toks t) T1 a b more i).toNat := by
  have hr := (og_rng (toks t) T1 a b more i).resolve_left h
  have hlt : (og (toks t) T1 a b more i).toNat < (toks t).length := by omega
  refine ⟨hlt, ?_⟩
  have hq := (toks_at hlt).1
  unfold og at h hq ⊢
  by_cases c : (T1.getD i t0).2.1 < a
  · rw [if_pos c] at h hq ⊢
    split at h
    · rename_i z
      rw [if_pos z] at hq ⊢
      have e := (olT_rng (toks t) (T1.getD i t0).2.1).resolve_left h
      exact ⟨z.2.1.symm, z.2.2.1.symm, Or.inl ⟨z.2.2.2, e.2.2.symm⟩⟩
    · exact absurd rfl h
  · rw [if_neg c] at h hq ⊢
    split at h
    · exact absurd rfl h
    · rename_i c2
      rw [if_neg c2] at hq ⊢
      split at h
      · rename_i z
        rw [if_pos z] at hq ⊢
        have e := (olT_rng (toks t) ((T1.getD i t0).2.1 - more)).resolve_left h
        exact ⟨z.2.1.symm, z.2.2.symm, Or.inr ⟨by omega, by omega, by omega⟩⟩
      · exact absurd rfl h
/-- what the reference remembers -/
def RO (T : List zT) (N : List zQ) (M : zM) : Prop := M 77 59 = (T.length : Int) ∧ (∀ i : Nat, i < T.length → M 116 (i : Int) = (T.getD i t0).1 ∧ M 117 (i : Int) = (T.getD i t0).2.1 ∧ M 118 (i : Int) = (T.getD i t0).2.2.1 - (T.getD i t0).2.1 ∧ M 119 (i : Int) = (T.getD i t0).2.2.2.1) ∧ M 77 60 = (N.length : Int) ∧ (∀ i : Nat, i < N.length → M 120 (i : Int) = (N.getD i n0).1 ∧ M 121 (i : Int) = (if 0 < (N.getD i n0).2.2.2.2.2.2.1 then (N.getD i n0).2.2.2.2.2.1 else -1) ∧ M 122 (i : Int) = (N.getD i n0).2.2.2.2.2.2.1) ∧ ∀ s, 0 ≤ s → s < 18 → M 113 s = mnS N s N.length
def oRm (M M' : zM) : Prop := ∀ b j, b ≠ 113 → ¬ (116 ≤ b ∧ b ≤ 122) → (b = 77 → j ≠ 59 ∧ j ≠ 60) → M' b j = M b j
/-- the reference's rows of a node -/
theorem TM_at {T : List zT} {M : zM} (h : TM T M) {i : Nat} (hi : i < (NT T).length) : M 100 (i : Int) = ((NT T).getD i n0).1 ∧ M 101 (i : Int) = ((NT T).getD i n0).2.1 ∧ M 103 (i : Int) = ((NT T).getD i n0).2.2.1 ∧ M 107 (i : Int) = ((NT T).getD i n0).2.2.2.1 ∧ M 102 (i : Int) = ((NT T).getD i n0).2.2.2.2.1 ∧ M 105 (i : Int) = (if 0 < ((NT T).getD i n0).2.2.2.2.2.2.1 then ((NT T).getD i n0).2.2.2.2.2.1 else -1) ∧ M 106 (i : Int) = ((NT T).getD i n0).2.2.2.2.2.2.1 ∧ M 108 (i : Int) = sgF ((NT T).getD i n0) := by
  have := h.1.2.2 i (by rw [List.length_map]; exact hi)
  rw [qd_map hi] at this
  exact this
theorem TM_len {T : List zT} {M : zM} (h : TM T M) : M 77 44 = ((NT T).length : Int) ∧ (NT T).length ≤ 1216 := by
  have h1 := h.1.1
  have h2 := h.1.2.1
  rw [List.length_map] at h1 h2
  exact ⟨h1, h2⟩
section RK1
variable {L d : Nat} {M : zM} {Q : Option zV → zM → Prop} {t : List Int}
theorem R_rem1 {T : List zT} (M0 : zM) (h10 : M0 77 10 = (T.length : Int)) (hl : T.length ≤ 300) (hR : RR T M0) (k : ∀ M', (∀ i : Nat, i < T.length → M' 116 (i : Int) = (T.getD i t0).1 ∧ M' 117 (i : Int) = (T.getD i t0).2.1 ∧ M' 118 (i : Int) = (T.getD i t0).2.2.1 - (T.getD i t0).2.1 ∧ M' 119 (i : Int) = (T.getD i t0).2.2.2.1) → z_oR 116 119 M0 M' → v_wp L d 224 72 [(2, 77), (0, (T.length : Int))] [] M' Q) : ∀ (n j : Nat) (Mc : zM), n = T.length - j → j ≤ T.length → (∀ i : Nat, i < j → Mc 116 (i : Int) = (T.getD i t0).1 ∧ Mc 117 (i : Int) = (T.getD i t0).2.1 ∧ Mc 118 (i : Int) = (T.getD i t0).2.2.1 - (T.getD i t0).2.1 ∧ Mc 119 (i : Int) = (T.getD i t0).2.2.2.1) → z_oR 116 119 M0 Mc → v_wp L d 224 10 [(2, 77), (0, (j : Int))] [] Mc Q := by
  intro n
  induction n with
  | zero =>
    intro j Mc hn hj hz ho
    have ej : j = T.length := by omega
    subst ej
    have p : Mc 77 10 = (T.length : Int) := (ho 77 10 (by decide)).trans h10
    refine v_load rfl rfl ⟨rfl, Nat.le_of_ble_eq_true rfl⟩ ?_
    refine v_load rfl rfl ⟨rfl, Nat.le_of_ble_eq_true rfl⟩ ?_
    refine v_getx rfl rfl (p) ?_
    refine v_ige rfl (fun _ => ?_) (fun h => absurd h (by omega))
    exact k Mc hz ho
  | succ n ih =>
    intro j Mc hn hj hz ho
    have p : Mc 77 10 = (T.length : Int) := (ho 77 10 (by decide)).trans h10
    obtain ⟨g1, g2, g3, g4⟩ := hR.2.2 j (by omega)
    have q1 : Mc 81 (j : Int) = (T.getD j t0).1 := (ho 81 _ (by decide)).trans g1
    have q2 : Mc 82 (j : Int) = (T.getD j t0).2.1 := (ho 82 _ (by decide)).trans g2
    have q3 : Mc 83 (j : Int) = (T.getD j t0).2.2.1 - (T.getD j t0).2.1 := (ho 83 _ (by decide)).trans g3
    have q4 : Mc 84 (j : Int) = (T.getD j t0).2.2.2.1 := (ho 84 _ (by decide)).trans g4
    refine v_load rfl rfl ⟨rfl, Nat.le_of_ble_eq_true rfl⟩ ?_
    refine v_load rfl rfl ⟨rfl, Nat.le_of_ble_eq_true rfl⟩ ?_
    refine v_getx rfl rfl (p) ?_
    refine v_ige rfl (fun h => absurd h (by omega)) (fun _ => ?_)
    refine v_load rfl rfl ⟨rfl, Nat.le_of_ble_eq_true rfl⟩ ?_
    refine v_getp rfl rfl rfl ?_
    refine v_load rfl rfl ⟨rfl, Nat.le_of_ble_eq_true rfl⟩ ?_
    refine v_load rfl rfl ⟨rfl, Nat.le_of_ble_eq_true rfl⟩ ?_
    refine v_getp rfl rfl rfl ?_
    refine v_load rfl rfl ⟨rfl, Nat.le_of_ble_eq_true rfl⟩ ?_
    refine v_ald9 rfl rfl ⟨by omega, by show _ < (300 : Int); omega⟩ ?_
    rw [q1]
    refine v_ast9 rfl rfl (by decide) ⟨by omega, by show _ < (300 : Int); omega⟩ ?_
    refine v_load rfl rfl ⟨rfl, Nat.le_of_ble_eq_true rfl⟩ ?_
    refine v_getp rfl rfl rfl ?_
    refine v_load rfl rfl ⟨rfl, Nat.le_of_ble_eq_true rfl⟩ ?_
    refine v_load rfl rfl ⟨rfl, Nat.le_of_ble_eq_true rfl⟩ ?_
    refine v_getp rfl rfl rfl ?_
    refine v_load rfl rfl ⟨rfl, Nat.le_of_ble_eq_true rfl⟩ ?_
    refine v_ald9 rfl rfl ⟨by omega, by show _ < (300 : Int); omega⟩ ?_
    rw [u_n1 (show (82 : Int) ≠ 116 by decide), q2]
    refine v_ast9 rfl rfl (by decide) ⟨by omega, by show _ < (300 : Int); omega⟩ ?_
    refine v_load rfl rfl ⟨rfl, Nat.le_of_ble_eq_true rfl⟩ ?_
    refine v_getp rfl rfl rfl ?_
    refine v_load rfl rfl ⟨rfl, Nat.le_of_ble_eq_true rfl⟩ ?_
    refine v_load rfl rfl ⟨rfl, Nat.le_of_ble_eq_true rfl⟩ ?_
    refine v_getp rfl rfl rfl ?_
    refine v_load rfl rfl ⟨rfl, Nat.le_of_ble_eq_true rfl⟩ ?_
    refine v_ald9 rfl rfl ⟨by omega, by show _ < (300 : Int); omega⟩ ?_
    simp (disch := decide) only [u_n1]; rw [q3]
    refine v_ast9 rfl rfl (by decide) ⟨by omega, by show _ < (300 : Int); omega⟩ ?_
    refine v_load rfl rfl ⟨rfl, Nat.le_of_ble_eq_true rfl⟩ ?_
    refine v_getp rfl rfl rfl ?_
    refine v_load rfl rfl ⟨rfl, Nat.le_of_ble_eq_true rfl⟩ ?_
    refine v_load rfl rfl ⟨rfl, Nat.le_of_ble_eq_true rfl⟩ ?_
    refine v_getp rfl rfl rfl ?_
    refine v_load rfl rfl ⟨rfl, Nat.le_of_ble_eq_true rfl⟩ ?_
    refine v_ald9 rfl rfl ⟨by omega, by show _ < (300 : Int); omega⟩ ?_
    simp (disch := decide) only [u_n1]; rw [q4]
    refine v_ast9 rfl rfl (by decide) ⟨by omega, by show _ < (300 : Int); omega⟩ ?_
    refine v_iinc rfl rfl rfl (by omega) rfl ?_
    refine v_goto rfl ?_
    refine ih (j + 1) _ (by omega) (by omega) (fun i hi => ?_) (z_oR_tr ho (z_oR_tr (z_oR_u (by decide)) (z_oR_tr (z_oR_u (by decide)) (z_oR_tr (z_oR_u (by decide)) (z_oR_u (by decide))))))
    by_cases e : i = j
    · subst e
      simp (disch := decide) only [u_n1, u_eq, and_self]
    · have := hz i (by omega)
      have hne : (i : Int) ≠ (j : Int) := by omega
      simp (disch := first | decide | assumption) only [u_n1, u_n2]
      exact this
theorem R_rem2 {T : List zT} (M0 : zM) (hT : TM T M0) (k : ∀ M', (∀ i : Nat, i < (NT T).length → M' 120 (i : Int) = ((NT T).getD i n0).1 ∧ M' 121 (i : Int) = (if 0 < ((NT T).getD i n0).2.2.2.2.2.2.1 then ((NT T).getD i n0).2.2.2.2.2.1 else -1) ∧ M' 122 (i : Int) = ((NT T).getD i n0).2.2.2.2.2.2.1) → z_oR 120 122 M0 M' → v_wp L d 224 132 [(2, 77), (0, ((NT T).length : Int))] [] M' Q) : ∀ (n j : Nat) (Mc : zM), n = (NT T).length - j → j ≤ (NT T).length → (∀ i : Nat, i < j → Mc 120 (i : Int) = ((NT T).getD i n0).1 ∧ Mc 121 (i : Int) = (if 0 < ((NT T).getD i n0).2.2.2.2.2.2.1 then ((NT T).getD i n0).2.2.2.2.2.1 else -1) ∧ Mc 122 (i : Int) = ((NT T).getD i n0).2.2.2.2.2.2.1) → z_oR 120 122 M0 Mc → v_wp L d 224 82 [(2, 77), (0, (j : Int))] [] Mc Q := by
  intro n
  obtain ⟨h44, hl⟩ := TM_len hT
  induction n with
  | zero =>
    intro j Mc hn hj hz ho
    have ej : j = (NT T).length := by omega
    subst ej
    have p : Mc 77 44 = ((NT T).length : Int) := (ho 77 44 (by decide)).trans h44
    refine v_load rfl rfl ⟨rfl, Nat.le_of_ble_eq_true rfl⟩ ?_
    refine v_load rfl rfl ⟨rfl, Nat.le_of_ble_eq_true rfl⟩ ?_
    refine v_getx rfl rfl (p) ?_
    refine v_ige rfl (fun _ => ?_) (fun h => absurd h (by omega))
    exact k Mc hz ho
  | succ n ih =>
    intro j Mc hn hj hz ho
    have p : Mc 77 44 = ((NT T).length : Int) := (ho 77 44 (by decide)).trans h44
    obtain ⟨g1, -, -, -, -, g6, g7, -⟩ := TM_at hT (i := j) (by omega)
    have q1 := (ho 100 (j : Int) (by decide)).trans g1
    have q2 := (ho 105 (j : Int) (by decide)).trans g6
    have q3 := (ho 106 (j : Int) (by decide)).trans g7
    refine v_load rfl rfl ⟨rfl, Nat.le_of_ble_eq_true rfl⟩ ?_
    refine v_load rfl rfl ⟨rfl, Nat.le_of_ble_eq_true rfl⟩ ?_
    refine v_getx rfl rfl (p) ?_
    refine v_ige rfl (fun h => absurd h (by omega)) (fun _ => ?_)
    refine v_load rfl rfl ⟨rfl, Nat.le_of_ble_eq_true rfl⟩ ?_
    refine v_getp rfl rfl rfl ?_
    refine v_load rfl rfl ⟨rfl, Nat.le_of_ble_eq_true rfl⟩ ?_
    refine v_load rfl rfl ⟨rfl, Nat.le_of_ble_eq_true rfl⟩ ?_
    refine v_getp rfl rfl rfl ?_
    refine v_load rfl rfl ⟨rfl, Nat.le_of_ble_eq_true rfl⟩ ?_
    refine v_ald9 rfl rfl ⟨by omega, by show _ < (1600 : Int); omega⟩ ?_
    rw [q1]
    refine v_ast9 rfl rfl (by decide) ⟨by omega, by show _ < (1600 : Int); omega⟩ ?_
    refine v_load rfl rfl ⟨rfl, Nat.le_of_ble_eq_true rfl⟩ ?_
    refine v_getp rfl rfl rfl ?_
    refine v_load rfl rfl ⟨rfl, Nat.le_of_ble_eq_true rfl⟩ ?_
    refine v_load rfl rfl ⟨rfl, Nat.le_of_ble_eq_true rfl⟩ ?_
    refine v_getp rfl rfl rfl ?_
    refine v_load rfl rfl ⟨rfl, Nat.le_of_ble_eq_true rfl⟩ ?_
    refine v_ald9 rfl rfl ⟨by omega, by show _ < (1600 : Int); omega⟩ ?_
    rw [u_n1 (show (105 : Int) ≠ 120 by decide), q2]
    refine v_ast9 rfl rfl (by decide) ⟨by omega, by show _ < (1600 : Int); omega⟩ ?_
    refine v_load rfl rfl ⟨rfl, Nat.le_of_ble_eq_true rfl⟩ ?_
    refine v_getp rfl rfl rfl ?_
    refine v_load rfl rfl ⟨rfl, Nat.le_of_ble_eq_true rfl⟩ ?_
    refine v_load rfl rfl ⟨rfl, Nat.le_of_ble_eq_true rfl⟩ ?_
    refine v_getp rfl rfl rfl ?_
    refine v_load rfl rfl ⟨rfl, Nat.le_of_ble_eq_true rfl⟩ ?_
    refine v_ald9 rfl rfl ⟨by omega, by show _ < (1600 : Int); omega⟩ ?_
    simp (disch := decide) only [u_n1]; rw [q3]
    refine v_ast9 rfl rfl (by decide) ⟨by omega, by show _ < (1600 : Int); omega⟩ ?_
    refine v_iinc rfl rfl rfl (by omega) rfl ?_
    refine v_goto rfl ?_
    refine ih (j + 1) _ (by omega) (by omega) (fun i hi => ?_) (z_oR_tr ho (z_oR_tr (z_oR_u (by decide)) (z_oR_tr (z_oR_u (by decide)) (z_oR_u (by decide)))))
    by_cases e : i = j
    · subst e
      simp (disch := decide) only [u_n1, u_eq, and_self]
    · have := hz i (by omega)
      have hne : (i : Int) ≠ (j : Int) := by omega
      simp (disch := first | decide | assumption) only [u_n1, u_n2]
      exact this
theorem R_rem3 (M0 : zM) (k : ∀ M', (∀ s, 0 ≤ s → s < 18 → M' 113 s = M0 112 s) → (∀ b j, b ≠ 113 → M' b j = M0 b j) → Q none M') : ∀ (n : Nat) (j : Int) (Mc : zM), n = (18 - j).toNat → 0 ≤ j → j ≤ 18 → (∀ s, 0 ≤ s → s < j → Mc 113 s = M0 112 s) → (∀ b i, b ≠ 113 → Mc b i = M0 b i) → v_wp L d 224 134 [(2, 77), (0, j)] [] Mc Q := by
  intro n
  induction n with
  | zero =>
    intro j Mc hn h0 h1 hz ho
    have ej : j = 18 := by omega
    subst ej
    refine v_load rfl rfl ⟨rfl, Nat.le_of_ble_eq_true rfl⟩ ?_
    refine v_push rfl ?_
    refine v_ige rfl (fun _ => ?_) (fun h => absurd h (by decide))
    refine v_ret rfl rfl ?_
    exact k Mc hz ho
  | succ n ih =>
    intro j Mc hn h0 h1 hz ho
    refine v_load rfl rfl ⟨rfl, Nat.le_of_ble_eq_true rfl⟩ ?_
    refine v_push rfl ?_
    refine v_ige rfl (fun h => absurd h (by omega)) (fun _ => ?_)
    refine v_load rfl rfl ⟨rfl, Nat.le_of_ble_eq_true rfl⟩ ?_
    refine v_getp rfl rfl rfl ?_
    refine v_load rfl rfl ⟨rfl, Nat.le_of_ble_eq_true rfl⟩ ?_
    refine v_load rfl rfl ⟨rfl, Nat.le_of_ble_eq_true rfl⟩ ?_
    refine v_getp rfl rfl rfl ?_
    refine v_load rfl rfl ⟨rfl, Nat.le_of_ble_eq_true rfl⟩ ?_
    refine v_ald9 rfl rfl ⟨by omega, by show _ < (18 : Int); omega⟩ ?_
    rw [ho 112 j (by decide)]
    refine v_ast9 rfl rfl (by decide) ⟨by omega, by show _ < (18 : Int); omega⟩ ?_
    refine v_iinc rfl rfl rfl (by omega) rfl ?_
    refine v_goto rfl ?_
    refine ih (j + 1) _ (by omega) (by omega) (by omega) (fun s s0 s1 => ?_) (fun b i hb => by rw [u_n1 hb]; exact ho b i hb)
    by_cases e : s = j
    · rw [e, u_eq]
    · rw [u_n2 e]; exact hz s s0 (by omega)
theorem R_remembers (hS : RSt t M) (k : ∀ M', RO (toks t) (NT (toks t)) M' → oRm M M' → Q none M') : v_call L d 224 [(2, 77)] M Q := by
  have h10 := hS.2.1.1
  have hl := hS.2.1.2.1
  refine v_in ?_
  refine v_load rfl rfl ⟨rfl, Nat.le_of_ble_eq_true rfl⟩ ?_
  refine v_load rfl rfl ⟨rfl, Nat.le_of_ble_eq_true rfl⟩ ?_
  refine v_getx rfl rfl (h10) ?_
  refine v_puti rfl rfl rfl ?_
  refine v_push rfl ?_
  refine v_store rfl ⟨rfl, Nat.le_of_ble_eq_true rfl, Nat.le_of_ble_eq_true rfl, rfl⟩ rfl ?_
  have o0 : ∀ b j, (b = 77 → j ≠ 59) → z_upd M 77 59 ((toks t).length : Int) b j = M b j := fun b j h => by
    have h3 : ¬ (b = 77 ∧ j = 59) := fun z => h z.1 z.2
    simp only [z_upd]
    rw [if_neg h3]
  refine R_rem1 (T := toks t) _ (by rw [o0 77 10 (by decide)]; exact h10) hl (RR_fr hS.2.1 (o0 77 10 (by decide)) (fun b j _ _ => o0 b j (by omega))) (fun M1 a1 o1 => ?_) _ 0 _ rfl (Nat.zero_le _) (fun i hi => absurd hi (Nat.not_lt_zero _)) z_oR_rf
  have o01 : ∀ b j, ¬ (116 ≤ b ∧ b ≤ 119) → (b = 77 → j ≠ 59) → M1 b j = M b j := fun b j h1 h2 => (o1 b j h1).trans (o0 b j h2)
  have t1 : TM (toks t) M1 := TM_fr hS.2.2.1 (o01 77 44 (by decide) (by decide)) (fun b j _ _ => o01 b j (by omega) (by omega))
  have p44 : M1 77 44 = ((NT (toks t)).length : Int) := (TM_len t1).1
  refine v_load rfl rfl ⟨rfl, Nat.le_of_ble_eq_true rfl⟩ ?_
  refine v_load rfl rfl ⟨rfl, Nat.le_of_ble_eq_true rfl⟩ ?_
  refine v_getx rfl rfl (p44) ?_
  refine v_puti rfl rfl rfl ?_
  refine v_push rfl ?_
  refine v_store rfl ⟨rfl, Nat.le_of_ble_eq_true rfl, Nat.le_of_ble_eq_true rfl, rfl⟩ rfl ?_
  have o2 : ∀ b j, (b = 77 → j ≠ 60) → z_upd M1 77 60 ((NT (toks t)).length : Int) b j = M1 b j := fun b j h => by
    have h3 : ¬ (b = 77 ∧ j = 60) := fun z => h z.1 z.2
    simp only [z_upd]
    rw [if_neg h3]
  refine R_rem2 (T := toks t) _ (TM_fr t1 (o2 77 44 (by decide)) (fun b j _ _ => o2 b j (by omega))) (fun M3 a3 o3 => ?_) _ 0 _ rfl (Nat.zero_le _) (fun i hi => absurd hi (Nat.not_lt_zero _)) z_oR_rf
  refine v_push rfl ?_
  refine v_store rfl ⟨rfl, Nat.le_of_ble_eq_true rfl, Nat.le_of_ble_eq_true rfl, rfl⟩ rfl ?_
  refine R_rem3 M3 (fun M4 a4 o4 => ?_) _ 0 _ rfl (by decide) (by decide) (fun s s0 s1 => absurd s1 (by omega)) (fun _ _ _ => rfl)
  have o34 : ∀ b j, b ≠ 113 → ¬ (120 ≤ b ∧ b ≤ 122) → (b = 77 → j ≠ 60) → M4 b j = M1 b j := fun b j h1 h2 h3 => by rw [o4 b j h1, o3 b j h2, o2 b j h3]
  refine k M4 ⟨?_, fun i hi => ?_, ?_, fun i hi => ?_, fun s s0 s1 => ?_⟩ (fun b j h1 h2 h3 => ?_)
  · rw [o34 77 59 (by decide) (by decide) (by decide), o1 77 59 (by decide), u_eq]
  · rw [o34 116 _ (by decide) (by decide) (by omega), o34 117 _ (by decide) (by decide) (by omega), o34 118 _ (by decide) (by decide) (by omega), o34 119 _ (by decide) (by decide) (by omega)]
    exact a1 i hi
  · rw [o4 77 60 (by decide), o3 77 60 (by decide), u_eq]
  · rw [o4 120 _ (by decide), o4 121 _ (by decide), o4 122 _ (by decide)]
    exact a3 i hi
  · rw [a4 s s0 s1, o3 112 s (by decide), o2 112 s (by omega), o01 112 s (by decide) (by omega)]
    exact hS.2.2.2.2 s s0 s1
  · rw [o34 b j h1 (by omega) (fun e => (h3 e).2), o01 b j (by omega) (fun e => (h3 e).1)]
end RK1
