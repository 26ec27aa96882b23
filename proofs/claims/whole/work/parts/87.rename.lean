/-! ACTS: rename. Words, uses -/
theorem asc_ext : ∀ (l1 l2 : List Nat), l1.Pairwise (· < ·) → l2.Pairwise (· < ·) → (∀ x, x ∈ l1 ↔ x ∈ l2) → l1 = l2
  | [], [], _, _, _ => rfl
  | [], b :: l2, _, _, h => absurd ((h b).mpr List.mem_cons_self) List.not_mem_nil
  | a :: l1, [], _, _, h => absurd ((h a).mp List.mem_cons_self) List.not_mem_nil
  | a :: l1, b :: l2, h1, h2, h => by
    have p1 := List.pairwise_cons.mp h1
    have p2 := List.pairwise_cons.mp h2
    have e : a = b := by
      rcases List.mem_cons.mp ((h a).mp List.mem_cons_self) with z | z
      · exact z
      · rcases List.mem_cons.mp ((h b).mpr List.mem_cons_self) with y | y
        · exact y.symm
        · have := p2.1 a z; have := p1.1 b y; omega
    subst e
    rw [asc_ext l1 l2 p1.2 p2.2 (fun x => ?_)]
    have hx := h x
    constructor
    · intro m
      rcases List.mem_cons.mp (hx.mp (List.mem_cons_of_mem _ m)) with z | z
      · have := p1.1 x m; omega
      · exact z
    · intro m
      rcases List.mem_cons.mp (hx.mpr (List.mem_cons_of_mem _ m)) with z | z
      · have := p2.1 x m; omega
      · exact z
theorem getD_ext {l1 l2 : List Int} (h : l1.length = l2.length) (he : ∀ i, i < l1.length → l1.getD i 0 = l2.getD i 0) : l1 = l2 := by
  refine List.ext_getElem h (fun i h1 h2 => ?_)
  have := he i h1
  rw [List.getD_eq_getElem?_getD, List.getD_eq_getElem?_getD, List.getElem?_eq_getElem h1, List.getElem?_eq_getElem h2] at this
  exact this
theorem sub_tb {t : List Int} {a b : Int} (h : 0 ≤ a ∧ b ≤ (t.length : Int)) {i : Nat} (hi : a + (i : Int) < b) : (sub t a b).getD i 0 = tb t (a + (i : Int)) := by
  rw [sub_at h hi]
  unfold tb
  rw [if_pos ⟨by omega, by omega⟩, show (a + (i : Int)).toNat = a.toNat + i by omega]
theorem sub_eq {t u : List Int} {a b c d : Int} (h : 0 ≤ a ∧ a ≤ b ∧ b ≤ (t.length : Int)) (h' : 0 ≤ c ∧ c ≤ d ∧ d ≤ (u.length : Int)) : sub t a b = sub u c d ↔ b - a = d - c ∧ ∀ i : Nat, (i : Int) < b - a → tb t (a + (i : Int)) = tb u (c + (i : Int)) := by
  have l1 := sub_len h
  have l2 := sub_len h'
  constructor
  · intro e
    have el : b - a = d - c := by rw [e] at l1; omega
    refine ⟨el, fun i hi => ?_⟩
    rw [← sub_tb ⟨h.1, h.2.2⟩ (by omega), ← sub_tb ⟨h'.1, h'.2.2⟩ (by omega), e]
  · intro e
    refine getD_ext (by omega) (fun i hi => ?_)
    rw [sub_tb ⟨h.1, h.2.2⟩ (by omega), sub_tb ⟨h'.1, h'.2.2⟩ (by omega)]
    exact e.2 i (by omega)
/-- a token's bytes -/
def wrd (t : List Int) (j : Int) : List Int := sub t (tk (toks t) j).2.1 (tk (toks t) j).2.2.1
theorem wrd_eq {t : List Int} {j q : Int} : wrd t j = wrd t q ↔ (tk (toks t) j).2.2.1 - (tk (toks t) j).2.1 = (tk (toks t) q).2.2.1 - (tk (toks t) q).2.1 ∧ ∀ i : Nat, (i : Int) < (tk (toks t) j).2.2.1 - (tk (toks t) j).2.1 → tb t ((tk (toks t) j).2.1 + (i : Int)) = tb t ((tk (toks t) q).2.1 + (i : Int)) := by
  have h1 := tk_rng (t := t) j
  have h2 := tk_rng (t := t) q
  exact sub_eq ⟨h1.1, h1.2.1, h1.2.2⟩ ⟨h2.1, h2.2.1, h2.2.2⟩
theorem wrd_tp {t tp : List Int} {q m : Int} (hm : 0 ≤ m ∧ m ≤ (tp.length : Int)) : wrd t q = tp.take m.toNat ↔ (tk (toks t) q).2.2.1 - (tk (toks t) q).2.1 = m ∧ ∀ i : Nat, (i : Int) < m → tb t ((tk (toks t) q).2.1 + (i : Int)) = tb tp (i : Int) := by
  have h2 := tk_rng (t := t) q
  have := sub_eq (t := t) (u := tp) (a := (tk (toks t) q).2.1) (b := (tk (toks t) q).2.2.1) (c := 0) (d := m) ⟨h2.1, h2.2.1, h2.2.2⟩ ⟨Int.le_refl _, hm.1, hm.2⟩
  rw [sub_0] at this
  unfold wrd
  rw [this]
  constructor
  · rintro ⟨e1, e2⟩
    exact ⟨by omega, fun i hi => by have := e2 i (by omega); rw [Int.zero_add] at this; exact this⟩
  · rintro ⟨e1, e2⟩
    exact ⟨by omega, fun i hi => by rw [Int.zero_add]; exact e2 i (by omega)⟩
/-- leaves of tokens -/
theorem lfF_sp {N : List zQ} {j : Int} : ∀ (n : Nat) (v : Int), (∃ i, i < n ∧ (N.getD i n0).2.2.1 = 0 ∧ (N.getD i n0).2.2.2.2.2.2.1 = 1 ∧ (N.getD i n0).2.2.2.2.2.1 = j) → ∃ i : Nat, lfF N n v j = (i : Int) ∧ i < n ∧ (N.getD i n0).2.2.1 = 0 ∧ (N.getD i n0).2.2.2.2.2.2.1 = 1 ∧ (N.getD i n0).2.2.2.2.2.1 = j
  | 0, _, ⟨i, hi, _⟩ => absurd hi (Nat.not_lt_zero _)
  | n + 1, v, ⟨i, hi, hc⟩ => by
    unfold lfF
    by_cases c : (N.getD n n0).2.2.1 = 0 ∧ (N.getD n n0).2.2.2.2.2.2.1 = 1 ∧ (N.getD n n0).2.2.2.2.2.1 = j
    · rw [if_pos c]; exact ⟨n, rfl, by omega, c⟩
    · rw [if_neg c]
      obtain ⟨i', h1, h2, h3⟩ := lfF_sp n v ⟨i, by by_cases e : i = n; (subst e; exact absurd hc c); omega, hc⟩
      exact ⟨i', h1, by omega, h3⟩
theorem lf_sp {t : List Int} {j : Int} (h : 0 ≤ j ∧ j < ((toks t).length : Int)) : 0 ≤ lf (NT (toks t)) j ∧ lf (NT (toks t)) j < ((NT (toks t)).length : Int) ∧ (nd (NT (toks t)) (lf (NT (toks t)) j)).2.2.1 = 0 ∧ (nd (NT (toks t)) (lf (NT (toks t)) j)).2.2.2.2.2.2.1 = 1 ∧ (nd (NT (toks t)) (lf (NT (toks t)) j)).2.2.2.2.2.1 = j := by
  obtain ⟨i, h1, h2, h3⟩ := lfF_sp (N := NT (toks t)) _ (-1) (lf_ex (tkOK_toks t) h.1 h.2)
  unfold lf
  rw [h1, nd_nat h2]
  exact ⟨by omega, by omega, h3⟩
/-- a node without children has size 1 -/
theorem NT_k0 {t : List Int} {i : Int} (hi : 0 ≤ i ∧ i < ((NT (toks t)).length : Int)) (h : (nd (NT (toks t)) i).2.2.1 = 0) : (nd (NT (toks t)) i).2.2.2.1 = 1 := by
  obtain ⟨cs, hw, h2, h3, -⟩ := NT_nod (tkOK_toks t) (i := i.toNat) (by omega)
  rw [nd_in hi] at h ⊢
  rw [h2] at h
  have : cs = [] := List.length_eq_zero_iff.mp (by omega)
  rw [h3, this]
  rfl
theorem lf_of {t : List Int} {i : Int} (hi : 0 ≤ i ∧ i < ((NT (toks t)).length : Int)) (h1 : (nd (NT (toks t)) i).2.2.1 = 0) (h2 : (nd (NT (toks t)) i).2.2.2.2.2.2.1 = 1) : lf (NT (toks t)) (nd (NT (toks t)) i).2.2.2.2.2.1 = i := by
  have hb := NT_bd (tkOK_toks t) (i := i.toNat) (by omega)
  rw [← nd_in hi] at hb
  obtain ⟨a1, a2, a3, a4, a5⟩ := lf_sp (t := t) (j := (nd (NT (toks t)) i).2.2.2.2.2.1) ⟨hb.1, by omega⟩
  have k1 := NT_k0 hi h1
  have k2 := NT_k0 ⟨a1, a2⟩ a3
  generalize lf (NT (toks t)) (nd (NT (toks t)) i).2.2.2.2.2.1 = x at *
  by_cases c : x < i
  · have := NT_next (tkOK_toks t) x.toNat i.toNat (by omega) (by omega) (by rw [← nd_in ⟨a1, a2⟩, k2]; omega)
    rw [← nd_in ⟨a1, a2⟩, ← nd_in hi] at this
    omega
  · by_cases c' : i < x
    · have := NT_next (tkOK_toks t) i.toNat x.toNat (by omega) (by omega) (by rw [← nd_in hi, k1]; omega)
      rw [← nd_in ⟨a1, a2⟩, ← nd_in hi] at this
      omega
    · omega
/-- uses of a word: tokens, nodes -/
noncomputable def usT (t : List Int) (q : Int) (j : Nat) : Bool := decide ((nd (NT (toks t)) (lf (NT (toks t)) (j : Int))).1 = 12 ∧ wrd t (j : Int) = wrd t q)
noncomputable def usN (t : List Int) (q : Int) (j : Nat) : Bool := decide ((nd (NT (toks t)) (j : Int)).1 = 12 ∧ wrd t (nd (NT (toks t)) (j : Int)).2.2.2.2.2.1 = wrd t q)
noncomputable def TI (t : List Int) (q : Int) (n : Nat) : List Nat := flt (usT t q) n
noncomputable def NI (t : List Int) (q : Int) (n : Nat) : List Nat := flt (usN t q) n
def tpP (t w : List Int) (j : Nat) : zPc := ((tk (toks t) (j : Int)).2.1, (tk (toks t) (j : Int)).2.2.1, w)
noncomputable def ndP (t w : List Int) (j : Nat) : zPc := (pF t (j : Int), pE t (j : Int), w)
noncomputable def TL (t : List Int) (q : Int) (w : List Int) (n : Nat) : List zPc := (TI t q n).map (tpP t w)
noncomputable def NL (t : List Int) (q : Int) (w : List Int) (n : Nat) : List zPc := (NI t q n).map (ndP t w)
theorem nam {t : List Int} {j : Nat} (h : (nd (NT (toks t)) (j : Int)).1 = 12) : (0 < (j : Int) ∧ j < (NT (toks t)).length) ∧ (nd (NT (toks t)) (j : Int)).2.2.1 = 0 ∧ (nd (NT (toks t)) (j : Int)).2.2.2.1 = 1 ∧ (nd (NT (toks t)) (j : Int)).2.2.2.2.2.2.1 = 1 ∧ 0 ≤ (nd (NT (toks t)) (j : Int)).2.2.2.2.2.1 ∧ (nd (NT (toks t)) (j : Int)).2.2.2.2.2.1 < ((toks t).length : Int) ∧ pF t (j : Int) = (tk (toks t) (nd (NT (toks t)) (j : Int)).2.2.2.2.2.1).2.1 ∧ pE t (j : Int) = (tk (toks t) (nd (NT (toks t)) (j : Int)).2.2.2.2.2.1).2.2.1 := by
  have hj : j < (NT (toks t)).length := by
    by_cases c : j < (NT (toks t)).length
    · exact c
    · rw [nd_out (by omega), show n0.1 = -1 from rfl] at h; omega
  have l := leaf1 (t := t) (i := (j : Int)) ⟨by omega, by omega⟩ (by omega)
  have l5 := l.2.2.2.2 (by omega)
  have hlf := l5.2.1
  refine ⟨⟨l.1, hj⟩, l.2.1, l.2.2.1, l5.1, hlf.1, hlf.2, ?_, ?_⟩
  · unfold pF; rw [if_neg (by omega), if_neg (by omega)]
  · unfold pE; rw [if_neg (by omega), l5.1]
    rw [show (nd (NT (toks t)) (j : Int)).2.2.2.2.2.1 + 1 - 1 = (nd (NT (toks t)) (j : Int)).2.2.2.2.2.1 by omega]
theorem usN_m {t : List Int} {q : Int} {j : Nat} (h : usN t q j = true) : (nd (NT (toks t)) (j : Int)).1 = 12 ∧ wrd t (nd (NT (toks t)) (j : Int)).2.2.2.2.2.1 = wrd t q := of_decide_eq_true h
theorem NI_TI {t : List Int} {q : Int} : (NI t q (NT (toks t)).length).map (fun (n : Nat) => (nd (NT (toks t)) (n : Int)).2.2.2.2.2.1.toNat) = TI t q (toks t).length := by
  refine asc_ext _ _ ?_ flt_lt (fun x => ?_)
  · rw [List.pairwise_map]
    refine List.Pairwise.imp_of_mem ?_ (flt_lt (p := usN t q) (n := (NT (toks t)).length))
    intro a b ha hb hab
    have n1 := nam (usN_m (flt_mem.mp ha).2).1
    have n2 := nam (usN_m (flt_mem.mp hb).2).1
    have := NT_next (tkOK_toks t) a b hab n2.1.2 (by rw [← nd_nat n1.1.2, n1.2.2.1]; omega)
    rw [← nd_nat n1.1.2, ← nd_nat n2.1.2] at this
    omega
  · constructor
    · intro hx
      obtain ⟨n, hn, rfl⟩ := List.mem_map.mp hx
      have hu := usN_m (flt_mem.mp hn).2
      have n1 := nam hu.1
      refine flt_mem.mpr ⟨by omega, decide_eq_true ?_⟩
      rw [show (((nd (NT (toks t)) (n : Int)).2.2.2.2.2.1.toNat : Nat) : Int) = (nd (NT (toks t)) (n : Int)).2.2.2.2.2.1 by omega, lf_of ⟨by omega, by omega⟩ n1.2.1 n1.2.2.2.1]
      exact hu
    · intro hx
      obtain ⟨h1, h2⟩ := flt_mem.mp hx
      have h2 := of_decide_eq_true h2
      obtain ⟨a1, a2, a3, a4, a5⟩ := lf_sp (t := t) (j := (x : Int)) ⟨by omega, by omega⟩
      have e : (((lf (NT (toks t)) (x : Int)).toNat : Nat) : Int) = lf (NT (toks t)) (x : Int) := by omega
      refine List.mem_map.mpr ⟨(lf (NT (toks t)) (x : Int)).toNat, flt_mem.mpr ⟨by omega, decide_eq_true ?_⟩, ?_⟩
      · rw [e, a5]; exact h2
      · show (nd (NT (toks t)) (((lf (NT (toks t)) (x : Int)).toNat : Nat) : Int)).2.2.2.2.2.1.toNat = x
        rw [e, a5]; omega
theorem NL_TL {t w : List Int} {q : Int} : NL t q w (NT (toks t)).length = TL t q w (toks t).length := by
  unfold NL TL
  rw [← NI_TI, List.map_map]
  refine List.map_congr_left (fun n hn => ?_)
  have hu := usN_m (flt_mem.mp hn).2
  have n1 := nam hu.1
  show ndP t w n = tpP t w _
  unfold ndP tpP
  rw [show (((nd (NT (toks t)) (n : Int)).2.2.2.2.2.1.toNat : Nat) : Int) = (nd (NT (toks t)) (n : Int)).2.2.2.2.2.1 by omega, n1.2.2.2.2.2.2.1, n1.2.2.2.2.2.2.2]
theorem NI_len {t : List Int} {q : Int} : (NI t q (NT (toks t)).length).length = (TI t q (toks t).length).length := by
  rw [← NI_TI, List.length_map]
theorem TI_y {t : List Int} {q : Int} {n : Nat} (h : usT t q n = true) : TI t q (n + 1) = TI t q n ++ [n] := flt_y h
theorem TI_n {t : List Int} {q : Int} {n : Nat} (h : ¬ usT t q n = true) : TI t q (n + 1) = TI t q n := flt_n h
theorem TL_y {t w : List Int} {q : Int} {n : Nat} (h : usT t q n = true) : TL t q w (n + 1) = TL t q w n ++ [tpP t w n] := by unfold TL; rw [TI_y h, List.map_append]; rfl
theorem TL_n {t w : List Int} {q : Int} {n : Nat} (h : ¬ usT t q n = true) : TL t q w (n + 1) = TL t q w n := by unfold TL; rw [TI_n h]
theorem NI_y {t : List Int} {q : Int} {n : Nat} (h : usN t q n = true) : NI t q (n + 1) = NI t q n ++ [n] := flt_y h
theorem NI_n {t : List Int} {q : Int} {n : Nat} (h : ¬ usN t q n = true) : NI t q (n + 1) = NI t q n := flt_n h
theorem NL_y {t w : List Int} {q : Int} {n : Nat} (h : usN t q n = true) : NL t q w (n + 1) = NL t q w n ++ [ndP t w n] := by unfold NL; rw [NI_y h, List.map_append]; rfl
theorem NL_n {t w : List Int} {q : Int} {n : Nat} (h : ¬ usN t q n = true) : NL t q w (n + 1) = NL t q w n := by unfold NL; rw [NI_n h]
theorem TL_ok {t w : List Int} {q : Int} {n : Nat} (hn : n ≤ (toks t).length) : okP (t.length : Int) 0 (TL t q w n) := by
  refine okP_map _ _ ?_ (fun i hi => ?_) (by omega)
  · refine List.Pairwise.imp_of_mem ?_ (flt_lt (p := usT t q) (n := n))
    intro i j hi hj hij
    have := (flt_mem.mp hj).1
    exact tq_ord (by omega) (by omega) (by omega)
  · have := tk_rng (t := t) (i : Int)
    exact ⟨this.1, this.2.1, this.2.2⟩
theorem NL_ok {t w : List Int} {q : Int} {n : Nat} : okP (t.length : Int) 0 (NL t q w n) := by
  refine okP_map _ _ ?_ (fun i hi => ⟨(pF_rng t _).1, pF_pE _, (pE_rng t _).2⟩) (by omega)
  refine List.Pairwise.imp_of_mem ?_ (flt_lt (p := usN t q) (n := n))
  intro i j hi hj hij
  have n1 := nam (usN_m (flt_mem.mp hi).2).1
  have n2 := nam (usN_m (flt_mem.mp hj).2).1
  exact pE_pF (by omega) (by omega) ⟨by omega, by rw [n1.2.2.1]; omega⟩
theorem NL_ln {t w : List Int} {q : Int} : ∀ n : Nat, lnP (NL t q w n) = ((NI t q n).length : Int) * ((w.length : Int) - ((tk (toks t) q).2.2.1 - (tk (toks t) q).2.1)) ∧ lnP (NL t q w n) ≤ (w.length : Int) * (n : Int)
  | 0 => by
    refine ⟨?_, ?_⟩
    · show (0 : Int) = (0 : Int) * _; rw [Int.zero_mul]
    · show (0 : Int) ≤ _ * (0 : Int); rw [Int.mul_zero]; exact Int.le_refl _
  | n + 1 => by
    have ih := NL_ln (t := t) (w := w) (q := q) n
    by_cases c : usN t q n = true
    · have hu := usN_m c
      have n1 := nam hu.1
      have hw := (wrd_eq.mp hu.2).1
      have r := tk_rng (t := t) q
      rw [NL_y c, NI_y c, lnP_snoc, List.length_append, ih.1]
      have e : ((ndP t w n).2.2.length : Int) - ((ndP t w n).2.1 - (ndP t w n).1) = (w.length : Int) - ((tk (toks t) q).2.2.1 - (tk (toks t) q).2.1) := by
        show (w.length : Int) - (pE t (n : Int) - pF t (n : Int)) = _
        rw [n1.2.2.2.2.2.2.1, n1.2.2.2.2.2.2.2]
        omega
      rw [e]
      refine ⟨?_, ?_⟩
      · rw [show (((NI t q n).length + [n].length : Nat) : Int) = ((NI t q n).length : Int) + 1 by rw [List.length_singleton]; omega, Int.add_mul, Int.one_mul]
      · rw [← ih.1, show ((n + 1 : Nat) : Int) = (n : Int) + 1 by omega, Int.mul_add, Int.mul_one]
        have := ih.2
        omega
    · rw [NL_n c, NI_n c]
      refine ⟨ih.1, ?_⟩
      rw [show ((n + 1 : Nat) : Int) = (n : Int) + 1 by omega, Int.mul_add, Int.mul_one]
      have := ih.2
      omega
