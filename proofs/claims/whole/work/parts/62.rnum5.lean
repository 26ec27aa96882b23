/-! THE REFERENCE'S NUMBERS as a whole -/
theorem pig : ∀ (n : Nat) (I : List Int), I.Nodup → (∀ i ∈ I, 0 ≤ i ∧ i < (n : Int)) → I.length ≤ n
  | 0, [], _, _ => Nat.le_refl _
  | 0, i :: I, _, h => absurd (h i (List.mem_cons_self ..)) (by omega)
  | n + 1, I, hn, h => by
    have ih := pig n (I.erase (n : Int)) (hn.erase _) (fun i hi => by
      have h1 := (hn.mem_erase_iff).mp hi
      have h2 := h i h1.2
      have : i ≠ (n : Int) := h1.1
      omega)
    by_cases hm : (n : Int) ∈ I
    · rw [List.length_erase_of_mem hm] at ih; omega
    · rw [List.erase_of_not_mem hm] at ih; omega
theorem pig_all {n : Nat} {I : List Int} (hn : I.Nodup) (h : ∀ i ∈ I, 0 ≤ i ∧ i < (n : Int)) (hl : I.length = n) {m : Int} (hm : 0 ≤ m ∧ m < (n : Int)) : m ∈ I := by
  by_cases e : m ∈ I
  · exact e
  · have := pig n (m :: I) (List.nodup_cons.mpr ⟨e, hn⟩) (fun i hi => by
      rcases List.mem_cons.mp hi with rfl | hi
      · exact hm
      · exact h i hi)
    simp at this
    omega
theorem fo_hd {V : zM} {p x : Int} {ts : List (List zN)} {I : List Int} (hf : fo V p x ts I) : ts ≠ [] → I.getD 0 0 = x :=
  fo_ind (C := fun _ x ts I => ts ≠ [] → I.getD 0 0 = x) hf (fun _ z => absurd rfl z) (fun _ _ _ _ _ _ _ _ _ _ _ _ _ _ _ _ _ _ _ _ _ _ => rfl)
/-- a node has a next one -/
def CND (N : List zQ) (i : Nat) : Prop := (N.getD i n0).2.1 ≠ -1 ∧ (i : Int) + (N.getD i n0).2.2.2.1 < (N.getD i n0).2.1 + (N.getD (N.getD i n0).2.1.toNat n0).2.2.2.1
theorem getD_app1 {A B : List Int} {i : Nat} (h : i < A.length) : (A ++ B).getD i 0 = A.getD i 0 := g_app1 h
theorem getD_app2 {A B : List Int} {i : Nat} (h : A.length ≤ i) : (A ++ B).getD i 0 = B.getD (i - A.length) 0 := by
  rw [List.getD_eq_getElem?_getD, List.getElem?_append_right h, ← List.getD_eq_getElem?_getD]
theorem sib_fo {V : zM} {p x : Int} {ts : List (List zN)} {I : List Int} (hf : fo V p x ts I) : ∀ (N : List zQ) (base pl : Nat) (dp : Int), (∀ i, i < ts.flatten.length → N.getD (base + i) n0 = (lay (pl : Int) dp (base : Int) ts.flatten).getD i n0) → (pl : Int) + (N.getD pl n0).2.2.2.1 = (base : Int) + (ts.flatten.length : Int) → ∀ k, k < I.length → (V 60 (I.getD k 0) = -1 ∧ ¬ CND N (base + k)) ∨ (CND N (base + k) ∧ ∃ j, j < I.length ∧ V 60 (I.getD k 0) = I.getD j 0 ∧ (j : Int) = (k : Int) + (N.getD (base + k) n0).2.2.2.1) := by
  refine fo_ind (C := fun p x ts I => ∀ (N : List zQ) (base pl : Nat) (dp : Int), (∀ i, i < ts.flatten.length → N.getD (base + i) n0 = (lay (pl : Int) dp (base : Int) ts.flatten).getD i n0) → (pl : Int) + (N.getD pl n0).2.2.2.1 = (base : Int) + (ts.flatten.length : Int) → ∀ k, k < I.length → (V 60 (I.getD k 0) = -1 ∧ ¬ CND N (base + k)) ∨ (CND N (base + k) ∧ ∃ j, j < I.length ∧ V 60 (I.getD k 0) = I.getD j 0 ∧ (j : Int) = (k : Int) + (N.getD (base + k) n0).2.2.2.1)) hf (fun _ _ _ _ _ _ _ k hk => absurd hk (Nat.not_lt_zero _)) ?_
  intro p x so fr up sg cs ts Ic It h0 e1 e2 e3 e4 e5 hxi hfc hft i1 i2 N base pl dp hN hE k hk
  have ela := lay_cons (pl : Int) dp (base : Int) so fr up sg cs ts
  have lc := fo_len hfc
  have lt := fo_len hft
  have ll := lay_len (fo_wf hfc) (base : Int) (dp + 1) ((base : Int) + 1)
  have hfl : ((mkN so fr up sg cs :: ts).flatten).length = cs.flatten.length + ts.flatten.length + 1 := by rw [List.flatten_cons, List.length_append, mkN_len]; omega
  rw [hfl] at hN hE
  rw [ela] at hN
  have hN0 := hN 0 (by omega)
  rw [Nat.add_zero] at hN0
  have hN0 : N.getD base n0 = (so, (pl : Int), (cs.length : Int), (cs.flatten.length : Int) + 1, dp, fr, up - fr, sg) := hN0
  have hNc : ∀ i, i < cs.flatten.length → N.getD (base + 1 + i) n0 = (lay (base : Int) (dp + 1) (((base + 1 : Nat)) : Int) cs.flatten).getD i n0 := by
    intro i hi
    have := hN (i + 1) (by omega)
    rw [List.getD_cons_succ, qd_app1 (by omega)] at this
    rw [show base + 1 + i = base + (i + 1) by omega, this, show ((base + 1 : Nat) : Int) = (base : Int) + 1 by omega]
  have hNt : ∀ i, i < ts.flatten.length → N.getD (base + 1 + cs.flatten.length + i) n0 = (lay (pl : Int) dp ((base + 1 + cs.flatten.length : Nat) : Int) ts.flatten).getD i n0 := by
    intro i hi
    have := hN (cs.flatten.length + i + 1) (by omega)
    rw [List.getD_cons_succ, qd_app2 (by omega), ll, show cs.flatten.length + i - cs.flatten.length = i by omega] at this
    rw [show base + 1 + cs.flatten.length + i = base + (cs.flatten.length + i + 1) by omega, this, show ((base + 1 + cs.flatten.length : Nat) : Int) = (base : Int) + 1 + (cs.flatten.length : Int) by omega]
  cases k with
  | zero =>
    rw [Nat.add_zero, List.getD_cons_zero]
    have c : CND N base ↔ 0 < ts.flatten.length := by
      unfold CND
      rw [hN0]
      simp only [Int.toNat_natCast]
      constructor
      · intro z; omega
      · intro z; exact ⟨by omega, by omega⟩
    rcases fo_neg hft with ⟨z1, z2, z3⟩ | ⟨z1, z2⟩
    · left
      refine ⟨z1, fun z => ?_⟩
      rw [c, z2] at z
      simp at z
    · right
      have hpos : 0 < ts.flatten.length := by have := wf_len (fo_wf hft); have := List.length_pos_iff.mpr z2; omega
      refine ⟨c.mpr hpos, Ic.length + 1, by simp; omega, ?_, ?_⟩
      · rw [List.getD_cons_succ, getD_app2 (Nat.le_refl _), Nat.sub_self, fo_hd hft z2]
      · rw [hN0]
        show ((Ic.length + 1 : Nat) : Int) = (0 : Nat) + ((cs.flatten.length : Int) + 1)
        omega
  | succ k =>
    rw [List.getD_cons_succ]
    have hk : k < Ic.length + It.length := by simpa using hk
    by_cases hkc : k < Ic.length
    · have := i1 N (base + 1) base (dp + 1) hNc (by rw [hN0]; show (base : Int) + ((cs.flatten.length : Int) + 1) = _; omega) k hkc
      rw [getD_app1 hkc, show base + (k + 1) = base + 1 + k by omega]
      rcases this with z | ⟨z1, j, z2, z3, z4⟩
      · exact Or.inl z
      · refine Or.inr ⟨z1, j + 1, by simp; omega, ?_, by omega⟩
        rw [List.getD_cons_succ, getD_app1 z2]
        exact z3
    · have := i2 N (base + 1 + cs.flatten.length) pl dp hNt (by omega) (k - Ic.length) (by omega)
      rw [getD_app2 (by omega), show base + (k + 1) = base + 1 + cs.flatten.length + (k - Ic.length) by omega]
      rcases this with z | ⟨z1, j, z2, z3, z4⟩
      · exact Or.inl z
      · refine Or.inr ⟨z1, Ic.length + j + 1, by simp; omega, ?_, by omega⟩
        rw [List.getD_cons_succ, getD_app2 (by omega), show Ic.length + j - Ic.length = j by omega]
        exact z3
/-- leaves by their sort or by their counts -/
theorem cv_lf {T : List zT} {a b : Int} {ts : List (List zN)} (h : cv T a ts b) : ∀ ν ∈ ts.flatten, (isLf ν.1 = true ↔ (ν.2.1 = 0 ∧ ν.2.2.2.2.1 = 1)) := by
  refine cv_ind (C := fun a ts b => ∀ ν ∈ ts.flatten, (isLf ν.1 = true ↔ (ν.2.1 = 0 ∧ ν.2.2.2.2.1 = 1))) h (fun a ν hν => absurd hν List.not_mem_nil) ?_ ?_ ?_
  · intro a so sg ts b hl _ ih ν hν
    rcases List.mem_append.mp hν with hν | hν
    · have := List.mem_singleton.mp hν
      subst this
      exact ⟨fun _ => ⟨rfl, by show a + 1 - a = 1; omega⟩, fun _ => lfs_lf hl⟩
    · exact ih ν hν
  · intro a sg ts b _ _ ih ν hν
    rcases List.mem_append.mp hν with hν | hν
    · have := List.mem_singleton.mp hν
      subst this
      exact ⟨fun z => absurd z (by show ¬ isLf 17 = true; decide), fun z => absurd z.2 (by show ¬ a + 0 - a = 1; omega)⟩
    · exact ih ν hν
  · intro a m so cs ts b hne hsh _ _ i1 i2 ν hν
    rcases List.mem_append.mp hν with hν | hν
    · rcases List.mem_cons.mp hν with rfl | hν
      · have hl := List.length_pos_iff.mpr hne
        exact ⟨fun z => absurd z (by show ¬ isLf so = true; rw [(shp_nl hsh).1]; decide), fun z => absurd z.1 (by show ¬ (cs.length : Int) = 0; omega)⟩
      · exact i1 ν hν
    · exact i2 ν hν
theorem NT_lf {T : List zT} (hT : tkOK T) {i : Nat} (hi : i < (NT T).length) : isLf ((NT T).getD i n0).1 = true ↔ (((NT T).getD i n0).2.2.1 = 0 ∧ ((NT T).getD i n0).2.2.2.2.2.2.1 = 1) := by
  obtain ⟨tcv, twf⟩ := top_cv hT
  have hm := lay_map twf (-1) 1 0
  have hq : qN ((NT T).getD i n0) ∈ [topN T].flatten := by
    rw [← hm, List.getD_eq_getElem?_getD, List.getElem?_eq_getElem hi]
    exact List.mem_map_of_mem (List.getElem_mem hi)
  generalize (NT T).getD i n0 = q at hq
  have hq : qN q ∈ topN T := by simpa using hq
  rcases List.mem_cons.mp hq with e | hq
  · have e1 : q.1 = 0 := congrArg (fun z => z.1) e
    have e2 : q.2.2.1 = ((bal (itemsOf T)).length : Int) := congrArg (fun z => z.2.1) e
    have e3 : q.2.2.2.2.2.2.1 = (T.length : Int) - 0 := congrArg (fun z => z.2.2.2.2.1) e
    rw [e1, e2, e3]
    refine ⟨fun z => absurd z (by decide), fun z => ?_⟩
    have : bal (itemsOf T) = [] := List.length_eq_zero_iff.mp (by omega)
    rw [this] at tcv
    have := (cv_ends tcv).1 rfl
    omega
  · exact cv_lf tcv _ hq
theorem lfG_lf {T : List zT} (hT : tkOK T) : ∀ (n : Nat) (v j : Int), n ≤ (NT T).length → lfG (NT T) n v j = lfF (NT T) n v j
  | 0, _, _, _ => rfl
  | n + 1, v, j, h => by
    unfold lfG lfF
    rw [lfG_lf hT n v j (by omega)]
    have := NT_lf hT (i := n) (by omega)
    by_cases c : isLf ((NT T).getD n n0).1 = true ∧ ((NT T).getD n n0).2.2.2.2.2.1 = j
    · rw [if_pos c, if_pos ⟨(this.mp c.1).1, (this.mp c.1).2, c.2⟩]
    · rw [if_neg c, if_neg (fun z => c ⟨this.mpr ⟨z.1, z.2.1⟩, z.2.2⟩)]
/-- the next one of the same parent -/
def nxq (N : List zQ) (i : Int) : Int := if (nd N i).2.1 ≠ -1 ∧ i + (nd N i).2.2.2.1 < (nd N i).2.1 + (nd N (nd N i).2.1).2.2.2.1 then i + (nd N i).2.2.2.1 else -1
/-- the reference's tree -/
def TM (T : List zT) (M : zM) : Prop := RM ((NT T).map p1) M ∧ (∀ i : Nat, i < (NT T).length → M 104 (i : Int) = nxq (NT T) (i : Int) ∧ (nxC ((NT T).getD i n0) → M 109 (i : Int) = ((NT T).getD i n0).2.2.2.2.2.1)) ∧ ∀ j, 0 ≤ j → j < (T.length : Int) → M 111 j = lf (NT T) j
