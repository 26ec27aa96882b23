/-! EACH NODE and its children -/
/-- a forest that stands in a row of nodes from a place on -/
def inN (N : List zQ) (base : Nat) (pl dp : Int) (ts : List (List zN)) : Prop := ∀ i, i < ts.flatten.length → N.getD (base + i) n0 = (lay pl dp (base : Int) ts.flatten).getD i n0
theorem inN_cons {N : List zQ} {base : Nat} {pl dp so fr up sg : Int} {cs ts : List (List zN)} (hw : wfF cs) (h : inN N base pl dp (mkN so fr up sg cs :: ts)) : N.getD base n0 = (so, pl, (cs.length : Int), (cs.flatten.length : Int) + 1, dp, fr, up - fr, sg) ∧ inN N (base + 1) (base : Int) (dp + 1) cs ∧ inN N (base + 1 + cs.flatten.length) pl dp ts := by
  have hfl : ((mkN so fr up sg cs :: ts).flatten).length = cs.flatten.length + ts.flatten.length + 1 := by rw [List.flatten_cons, List.length_append, mkN_len]; omega
  have ll := lay_len hw (base : Int) (dp + 1) ((base : Int) + 1)
  unfold inN at h
  rw [hfl, lay_cons] at h
  refine ⟨?_, fun i hi => ?_, fun i hi => ?_⟩
  · have := h 0 (by omega)
    rw [Nat.add_zero] at this
    exact this
  · have := h (i + 1) (by omega)
    rw [List.getD_cons_succ, qd_app1 (by omega)] at this
    rw [show base + 1 + i = base + (i + 1) by omega, this, show ((base + 1 : Nat) : Int) = (base : Int) + 1 by omega]
  · have := h (cs.flatten.length + i + 1) (by omega)
    rw [List.getD_cons_succ, qd_app2 (by omega), ll, show cs.flatten.length + i - cs.flatten.length = i by omega] at this
    rw [show base + 1 + cs.flatten.length + i = base + (cs.flatten.length + i + 1) by omega, this, show ((base + 1 + cs.flatten.length : Nat) : Int) = (base : Int) + 1 + (cs.flatten.length : Int) by omega]
/-- the places of nodes in a row -/
def posF (N : List zQ) (base : Nat) : Nat → Nat
  | 0 => base
  | k + 1 => posF N base k + (N.getD (posF N base k) n0).2.2.2.1.toNat
theorem posF_shift (N : List zQ) (base : Nat) : ∀ k, posF N base (k + 1) = posF N (base + (N.getD base n0).2.2.2.1.toNat) k
  | 0 => rfl
  | k + 1 => by
    show posF N base (k + 1) + _ = posF N _ k + _
    rw [posF_shift N base k]
theorem row_lay {ts : List (List zN)} (hw : wfF ts) : ∀ (N : List zQ) (base : Nat) (pl dp : Int), inN N base pl dp ts → ∀ k, k < ts.length → posF N base k < base + ts.flatten.length ∧ base ≤ posF N base k ∧ (N.getD (posF N base k) n0).2.1 = pl ∧ (N.getD (posF N base k) n0).2.2.2.2.1 = dp ∧ qN (N.getD (posF N base k) n0) = hdN (ts.getD k []) ∧ 1 ≤ (N.getD (posF N base k) n0).2.2.2.1 ∧ posF N base (k + 1) ≤ base + ts.flatten.length ∧ (k + 1 = ts.length → posF N base (k + 1) = base + ts.flatten.length) := by
  refine wf_ind (C := fun ts => ∀ (N : List zQ) (base : Nat) (pl dp : Int), inN N base pl dp ts → ∀ k, k < ts.length → posF N base k < base + ts.flatten.length ∧ base ≤ posF N base k ∧ (N.getD (posF N base k) n0).2.1 = pl ∧ (N.getD (posF N base k) n0).2.2.2.2.1 = dp ∧ qN (N.getD (posF N base k) n0) = hdN (ts.getD k []) ∧ 1 ≤ (N.getD (posF N base k) n0).2.2.2.1 ∧ posF N base (k + 1) ≤ base + ts.flatten.length ∧ (k + 1 = ts.length → posF N base (k + 1) = base + ts.flatten.length)) hw (fun _ _ _ _ _ k hk => absurd hk (Nat.not_lt_zero _)) ?_
  intro so fr up sg cs ts hwc hwt i1 i2 N base pl dp hN k hk
  obtain ⟨g0, g1, g2⟩ := inN_cons hwc hN
  have hfl : ((mkN so fr up sg cs :: ts).flatten).length = cs.flatten.length + ts.flatten.length + 1 := by rw [List.flatten_cons, List.length_append, mkN_len]; omega
  have hs : (N.getD base n0).2.2.2.1 = (cs.flatten.length : Int) + 1 := by rw [g0]
  have hsn : base + (N.getD base n0).2.2.2.1.toNat = base + 1 + cs.flatten.length := by rw [hs]; omega
  rw [hfl]
  cases k with
  | zero =>
    have e0 : posF N base 0 = base := rfl
    have e1 : posF N base (0 + 1) = base + 1 + cs.flatten.length := by show base + _ = _; exact hsn
    rw [e1, e0, g0]
    refine ⟨by omega, Nat.le_refl _, rfl, rfl, rfl, by show (1 : Int) ≤ (cs.flatten.length : Int) + 1; omega, by omega, fun z => ?_⟩
    have : ts = [] := List.length_eq_zero_iff.mp (by rw [List.length_cons] at z; omega)
    rw [this]
    simp
    omega
  | succ k =>
    have hk' : k < ts.length := by simpa using hk
    have := i2 N (base + 1 + cs.flatten.length) pl dp g2 k hk'
    rw [posF_shift N base k, posF_shift N base (k + 1), hsn, List.getD_cons_succ]
    obtain ⟨a1, a2, a3, a4, a5, a6, a7, a8⟩ := this
    exact ⟨by omega, by omega, a3, a4, a5, a6, by omega, fun z => by have := a8 (by simpa using z); omega⟩
/-- what a node is -/
def NOD (T : List zT) (N : List zQ) (i : Nat) : Prop := ∃ cs : List (List zN), wfF cs ∧ (N.getD i n0).2.2.1 = (cs.length : Int) ∧ (N.getD i n0).2.2.2.1 = (cs.flatten.length : Int) + 1 ∧ inN N (i + 1) (i : Int) ((N.getD i n0).2.2.2.2.1 + 1) cs ∧ i + 1 + cs.flatten.length ≤ N.length ∧
  ((i = 0 ∧ N.getD i n0 = (0, -1, (cs.length : Int), (cs.flatten.length : Int) + 1, 1, 0, (T.length : Int), 0) ∧ cv T 0 cs (T.length : Int)) ∨
   (0 < i ∧ cs = [] ∧ lfs T (N.getD i n0).2.2.2.2.2.1 (N.getD i n0).1 (N.getD i n0).2.2.2.2.2.2.2 ∧ (N.getD i n0).2.2.2.2.2.2.1 = 1) ∨
   (0 < i ∧ cs = [] ∧ (N.getD i n0).1 = 17 ∧ (N.getD i n0).2.2.2.2.2.2.1 = 0 ∧ ((N.getD i n0).2.2.2.2.2.2.2 = 0 ∨ (N.getD i n0).2.2.2.2.2.2.2 = 41 ∨ (N.getD i n0).2.2.2.2.2.2.2 = 59 ∨ (N.getD i n0).2.2.2.2.2.2.2 = 125)) ∨
   (0 < i ∧ cs ≠ [] ∧ shp T (N.getD i n0).1 (N.getD i n0).2.2.2.2.2.1 (cs.map hdN) ∧ cv T (N.getD i n0).2.2.2.2.2.1 cs ((N.getD i n0).2.2.2.2.2.1 + (N.getD i n0).2.2.2.2.2.2.1) ∧ (N.getD i n0).2.2.2.2.2.2.2 = 0))
theorem cv_nod {T : List zT} {a b : Int} {ts : List (List zN)} (h : cv T a ts b) : ∀ (N : List zQ) (base : Nat) (pl dp : Int), 0 < base → base + ts.flatten.length ≤ N.length → inN N base pl dp ts → ∀ j, j < ts.flatten.length → NOD T N (base + j) := by
  have node : ∀ (N : List zQ) (base : Nat) (pl dp so fr up sg : Int) (cs ts : List (List zN)), wfF cs → wfF ts → base + (mkN so fr up sg cs :: ts).flatten.length ≤ N.length → inN N base pl dp (mkN so fr up sg cs :: ts) → ((N.getD base n0 = (so, pl, (cs.length : Int), (cs.flatten.length : Int) + 1, dp, fr, up - fr, sg)) → NOD T N base) → (∀ j, j < cs.flatten.length → NOD T N (base + 1 + j)) → (∀ j, j < ts.flatten.length → NOD T N (base + 1 + cs.flatten.length + j)) → ∀ j, j < (mkN so fr up sg cs :: ts).flatten.length → NOD T N (base + j) := by
    intro N base pl dp so fr up sg cs ts hwc hwt hl hN n0' n1 n2 j hj
    have hfl : ((mkN so fr up sg cs :: ts).flatten).length = cs.flatten.length + ts.flatten.length + 1 := by rw [List.flatten_cons, List.length_append, mkN_len]; omega
    rw [hfl] at hj
    cases j with
    | zero => exact n0' (inN_cons hwc hN).1
    | succ j =>
      by_cases c : j < cs.flatten.length
      · have := n1 j c
        rw [show base + (j + 1) = base + 1 + j by omega]
        exact this
      · have := n2 (j - cs.flatten.length) (by omega)
        rw [show base + (j + 1) = base + 1 + cs.flatten.length + (j - cs.flatten.length) by omega]
        exact this
  refine cv_ind (C := fun a ts b => ∀ (N : List zQ) (base : Nat) (pl dp : Int), 0 < base → base + ts.flatten.length ≤ N.length → inN N base pl dp ts → ∀ j, j < ts.flatten.length → NOD T N (base + j)) h (fun _ _ _ _ _ _ _ _ j hj => absurd hj (Nat.not_lt_zero _)) ?_ ?_ ?_
  · intro a so sg ts b hl hct ih N base pl dp hb hle hN
    have hfl : ((mkN so a (a + 1) sg [] :: ts).flatten).length = ts.flatten.length + 1 := by rw [List.flatten_cons, List.length_append, mkN_len]; simp; omega
    have hle : base + (mkN so a (a + 1) sg [] :: ts).flatten.length ≤ N.length := hle
    have hN : inN N base pl dp (mkN so a (a + 1) sg [] :: ts) := hN
    obtain ⟨g0, g1, g2⟩ := inN_cons wf_nil hN
    refine node N base pl dp so a (a + 1) sg [] ts wf_nil (cv_wf hct) hle hN (fun e => ?_) (fun j hj => absurd hj (Nat.not_lt_zero _)) (fun j hj => ih N (base + 1) pl dp (by omega) (by omega) g2 j hj)
    refine ⟨[], wf_nil, by rw [e], by rw [e], fun i hi => absurd hi (Nat.not_lt_zero _), by simp; omega, Or.inr (Or.inl ⟨hb, rfl, ?_, ?_⟩)⟩
    · rw [e]; exact hl
    · rw [e]; show a + 1 - a = 1; omega
  · intro a sg ts b hs hct ih N base pl dp hb hle hN
    have el : lfN 17 a 0 sg = mkN 17 a (a + 0) sg [] := rfl
    rw [el] at hle hN ⊢
    have hfl : ((mkN 17 a (a + 0) sg [] :: ts).flatten).length = ts.flatten.length + 1 := by rw [List.flatten_cons, List.length_append, mkN_len]; simp; omega
    obtain ⟨g0, g1, g2⟩ := inN_cons wf_nil hN
    refine node N base pl dp 17 a (a + 0) sg [] ts wf_nil (cv_wf hct) hle hN (fun e => ?_) (fun j hj => absurd hj (Nat.not_lt_zero _)) (fun j hj => ih N (base + 1) pl dp (by omega) (by omega) g2 j hj)
    refine ⟨[], wf_nil, by rw [e], by rw [e], fun i hi => absurd hi (Nat.not_lt_zero _), by simp; omega, Or.inr (Or.inr (Or.inl ⟨hb, rfl, by rw [e], ?_, ?_⟩))⟩
    · rw [e]; show a + 0 - a = 0; omega
    · rw [e]; exact hs
  · intro a m so cs ts b hne hsh hc1 hc2 i1 i2 N base pl dp hb hle hN
    have hfl : ((mkN so a m 0 cs :: ts).flatten).length = cs.flatten.length + ts.flatten.length + 1 := by rw [List.flatten_cons, List.length_append, mkN_len]; omega
    obtain ⟨g0, g1, g2⟩ := inN_cons (cv_wf hc1) hN
    refine node N base pl dp so a m 0 cs ts (cv_wf hc1) (cv_wf hc2) hle hN (fun e => ?_) (fun j hj => i1 N (base + 1) _ _ (by omega) (by omega) g1 j hj) (fun j hj => i2 N _ pl dp (by omega) (by omega) g2 j hj)
    refine ⟨cs, cv_wf hc1, by rw [e], by rw [e], by rw [e]; exact g1, by omega, Or.inr (Or.inr (Or.inr ⟨hb, hne, ?_, ?_, by rw [e]⟩))⟩
    · rw [e]; exact hsh
    · rw [e]; show cv T a cs (a + (m - a)); rw [show a + (m - a) = m by omega]; exact hc1
/-- every node of a text's tokens -/
theorem NT_nod {T : List zT} (hT : tkOK T) {i : Nat} (hi : i < (NT T).length) : NOD T (NT T) i := by
  obtain ⟨tcv, twf⟩ := top_cv hT
  have hl := (NT_len hT).1
  have he := NT_eq T
  have hin : inN (NT T) 1 0 2 (bal (itemsOf T)) := fun j hj => by rw [he, show 1 + j = j + 1 by omega, List.getD_cons_succ]; rfl
  cases i with
  | zero =>
    refine ⟨bal (itemsOf T), cv_wf tcv, by rw [he]; rfl, by rw [he]; rfl, ?_, by omega, Or.inl ⟨rfl, by rw [he, Int.sub_zero]; rfl, tcv⟩⟩
    have e5 : ((NT T).getD 0 n0).2.2.2.2.1 = 1 := by rw [he]; rfl
    rw [e5]
    exact hin
  | succ i =>
    have := cv_nod tcv (NT T) 1 0 2 (by decide) (by omega) hin i (by omega)
    rw [show 1 + i = i + 1 by omega] at this
    exact this
