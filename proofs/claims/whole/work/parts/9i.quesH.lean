/-! QUESTIONS: match -/
/-- each node is a child of its parent -/
theorem is_kid {t : List Int} {y : Int} (h : 0 < y ∧ y < ((NT (toks t)).length : Int)) : ∃ k : Nat, (k : Int) < (nd (NT (toks t)) (nd (NT (toks t)) y).2.1).2.2.1 ∧ kid t (nd (NT (toks t)) y).2.1 (k : Int) = y := by
  have u := up_in (t := t) (y := y) h
  have hx : 0 ≤ (nd (NT (toks t)) y).2.1 ∧ (nd (NT (toks t)) y).2.1 < ((NT (toks t)).length : Int) := ⟨u.1, by omega⟩
  generalize hg : (nd (NT (toks t)) y).2.1 = x at *
  have hk : 0 < (nd (NT (toks t)) x).2.2.1 := by
    have := NT_siz (t := t) hx
    by_cases c : (nd (NT (toks t)) x).2.2.1 = 0
    · have := siz_1 hx c; omega
    · omega
  have e := (KID (t := t) hx (k := (nd (NT (toks t)) x).2.2.1.toNat - 1) (by omega)).2.2.2.2.2.2.2.1 (by omega)
  rw [show (nd (NT (toks t)) x).2.2.1.toNat - 1 + 1 = (nd (NT (toks t)) x).2.2.1.toNat by omega] at e
  obtain ⟨k, k1, k2, k3⟩ := in_kid (t := t) hx u.2.1 _ (by rw [e]; exact u.2.2.1)
  obtain ⟨a1, a2, a3, a4, a5, a6, a7, -⟩ := KID (t := t) hx (k := k) (by omega)
  refine ⟨k, by omega, ?_⟩
  unfold kid
  rw [if_pos ⟨by omega, by omega⟩, Int.toNat_natCast]
  generalize (posF (NT (toks t)) (x.toNat + 1) k : Int) = z at *
  by_cases c : y = z
  · exact c.symm
  · have := nest (t := t) (x := z) ⟨by omega, a2⟩ (y := y) ⟨by omega, by omega⟩
    omega
def pn (g : Int) : Int := if g = 40 then 41 else if g = 41 then 40 else if g = 123 then 125 else if g = 125 then 123 else 0
/-- the sign of a child -/
noncomputable def kS (t : List Int) (p : Int) (k : Nat) : Int := (nd (NT (toks t)) (kid t p (k : Int))).2.2.2.2.2.2.2
theorem getD_0 {h : zN} {r : List zN} : (h :: r).getD 0 (0, 0, 0, 0, 0, 0) = h := rfl
/-- a MARK that has a partner, and which one -/
theorem MATE {t : List Int} {m : Int} (h : 0 < m ∧ m < ((NT (toks t)).length : Int)) (h16 : (nd (NT (toks t)) m).1 = 16) :
    (pn (nd (NT (toks t)) m).2.2.2.2.2.2.2 = 0 ∧ ¬ (nd (NT (toks t)) (nd (NT (toks t)) m).2.1).1 = 5 ∧ ¬ (nd (NT (toks t)) (nd (NT (toks t)) m).2.1).1 = 15 ∧ ((nd (NT (toks t)) (nd (NT (toks t)) m).2.1).1 = 3 → (nd (NT (toks t)) m).2.2.2.2.2.2.2 = 59)) ∨
    (∃ kk : Nat, (kk : Int) < (nd (NT (toks t)) (nd (NT (toks t)) m).2.1).2.2.1 ∧ kS t (nd (NT (toks t)) m).2.1 kk = pn (nd (NT (toks t)) m).2.2.2.2.2.2.2 ∧ (∀ k : Nat, k < kk → ¬ kS t (nd (NT (toks t)) m).2.1 k = pn (nd (NT (toks t)) m).2.2.2.2.2.2.2) ∧
      (((nd (NT (toks t)) (nd (NT (toks t)) m).2.1).1 = 5 ∧ ((nd (NT (toks t)) m).2.2.2.2.2.2.2 = 123 ∧ (kk : Int) = (nd (NT (toks t)) (nd (NT (toks t)) m).2.1).2.2.1 - 1 ∨ (nd (NT (toks t)) m).2.2.2.2.2.2.2 = 125 ∧ kk = 0)) ∨
       ((nd (NT (toks t)) (nd (NT (toks t)) m).2.1).1 = 15 ∧ ((nd (NT (toks t)) m).2.2.2.2.2.2.2 = 40 ∧ (kk : Int) = (nd (NT (toks t)) (nd (NT (toks t)) m).2.1).2.2.1 - 1 ∨ (nd (NT (toks t)) m).2.2.2.2.2.2.2 = 41 ∧ kk = 0)) ∨
       ((nd (NT (toks t)) (nd (NT (toks t)) m).2.1).1 = 3 ∧ ((nd (NT (toks t)) m).2.2.2.2.2.2.2 = 40 ∧ (kk : Int) = (nd (NT (toks t)) (nd (NT (toks t)) m).2.1).2.2.1 - 2 ∨ (nd (NT (toks t)) m).2.2.2.2.2.2.2 = 41 ∧ kk = 1)))) := by
  have u := up_in (t := t) (y := m) h
  obtain ⟨k, k1, k2⟩ := is_kid h
  have hx : 0 ≤ (nd (NT (toks t)) m).2.1 ∧ (nd (NT (toks t)) m).2.1 < ((NT (toks t)).length : Int) := ⟨u.1, by omega⟩
  have k1' := k1
  generalize hg : (nd (NT (toks t)) m).2.1 = p at *
  generalize hgg : (nd (NT (toks t)) m).2.2.2.2.2.2.2 = g at *
  by_cases c0 : p = 0
  · exfalso
    subst c0
    obtain ⟨cs, hw, q2, q3, q4, q5, q6⟩ := NT_nod (tkOK_toks t) (i := 0) (by omega)
    obtain ⟨-, ci, ii, -⟩ := itemsOf_ok (tkOK_toks t)
    have hb := (cv_balT ci ii).2
    have hin : inN (NT (toks t)) 1 0 2 (bal (itemsOf (toks t))) := fun j hj => by rw [NT_eq, show 1 + j = j + 1 by omega, List.getD_cons_succ]; rfl
    have hkl : (nd (NT (toks t)) 0).2.2.1 = ((bal (itemsOf (toks t))).length : Int) := by
      rw [nd_in ⟨by omega, by omega⟩, NT_eq]; rfl
    have hk' : k < (bal (itemsOf (toks t))).length := by omega
    obtain ⟨a1, -, -, -, a5, -⟩ := row_lay (cv_wf (top_cv (tkOK_toks t)).1) _ _ _ _ hin k hk'
    have hl := (NT_len (tkOK_toks t)).1
    have em : kid t 0 (k : Int) = (posF (NT (toks t)) 1 k : Int) := by unfold kid; rw [if_pos ⟨by omega, by omega⟩, Int.toNat_natCast]; rfl
    rw [em] at k2
    rw [← nd_nat (show posF (NT (toks t)) 1 k < (NT (toks t)).length by omega), k2, ← hd_map hk'] at a5
    have e16 : (qN (nd (NT (toks t)) m)).1 = 16 := h16
    rcases hb with e | ⟨y, e, hy⟩
    · have : (List.map hdN (bal (itemsOf (toks t)))).length = 0 := by rw [e]; rfl
      rw [List.length_map] at this; omega
    · have hl1 : (List.map hdN (bal (itemsOf (toks t)))).length = 1 := by rw [e]; rfl
      rw [List.length_map] at hl1
      have ek : k = 0 := by omega
      subst ek
      rw [e, getD_0] at a5
      rw [a5] at e16
      unfold isR isI at hy
      have e16 : nS y = 16 := e16
      omega
  · obtain ⟨hs, h1, h2, h3⟩ := SHP (t := t) (i := p) ⟨by omega, hx.2⟩ (by omega)
    have hkS : ∀ x : Nat, x < hs.length → kS t p x = nG (hs.getD x (0, 0, 0, 0, 0, 0)) := fun x hx => by rw [← h3 x hx]; rfl
    have hkk : k < hs.length := by omega
    have eg : nG (hs.getD k (0, 0, 0, 0, 0, 0)) = g := by rw [← h3 k hkk, k2]; exact hgg
    have es : nS (hs.getD k (0, 0, 0, 0, 0, 0)) = 16 := by rw [← h3 k hkk, k2]; exact h16
    unfold shp at h2
    generalize (nd (NT (toks t)) p).1 = so at *
    rcases h2 with ⟨e, x, y, eh, h4, h5⟩ | ⟨e, x, y, eh, h4, h5⟩ | ⟨e, l, x, y, eh, hl, h4, h5, h6⟩ | ⟨e, ha⟩ | ⟨e, l, x, eh, hl, h4, h5⟩ | ⟨e, ⟨r, eh⟩, ha⟩ | ⟨e, x, y, i, eh, h4, h5, h6⟩ | ⟨e, x, y, eh, h4, h5, h6⟩
    · exfalso
      subst eh
      unfold isR isI at h4 h5
      have : k = 0 ∨ k = 1 := by have : k < 2 := hkk; omega
      rcases this with rfl | rfl
      · have es : nS x = 16 := es; omega
      · have es : nS y = 16 := es; omega
    · subst eh
      left
      unfold isE at h4
      unfold isC at h5
      have : k = 0 ∨ k = 1 ∨ k = 2 ∨ k = 3 := by have : k < 4 := hkk; omega
      rcases this with rfl | rfl | rfl | rfl
      · exact absurd (show (12 : Int) = 16 from es) (by decide)
      · have eg : (0 : Int) = g := eg
        subst eg; exact ⟨rfl, by omega, by omega, by omega⟩
      · have es : nS x = 16 := es; omega
      · have eg : nG y = g := eg
        have : g = 59 := by omega
        subst this; exact ⟨rfl, by omega, by omega, by omega⟩
    · unfold isC at h4 h5
      rcases hl with rfl | ⟨z, rfl, hz⟩
      · subst eh
        have hlen : (nd (NT (toks t)) p).2.2.1 = 4 := h1.symm
        have s0 : kS t p 0 = 0 := hkS 0 (by show 0 < 4; decide)
        have s1 : kS t p 1 = 40 := hkS 1 (by show 1 < 4; decide)
        have s2 : kS t p 2 = nG x := hkS 2 (by show 2 < 4; decide)
        have : k = 0 ∨ k = 1 ∨ k = 2 ∨ k = 3 := by have : k < 4 := hkk; omega
        rcases this with rfl | rfl | rfl | rfl
        · exact absurd (show (12 : Int) = 16 from es) (by decide)
        · have eg : (40 : Int) = g := eg
          subst eg
          refine Or.inr ⟨2, by omega, by rw [s2, h4.2]; rfl, fun q hq => ?_, by omega⟩
          have : q = 0 ∨ q = 1 := by omega
          rcases this with rfl | rfl
          · rw [s0]; decide
          · rw [s1]; decide
        · have eg : nG x = g := eg
          have : g = 41 := by omega
          subst this
          refine Or.inr ⟨1, by omega, by rw [s1]; rfl, fun q hq => ?_, by omega⟩
          have : q = 0 := by omega
          subst this
          rw [s0]; decide
        · have eg : nG y = g := eg
          have : g = 59 := by omega
          subst this; exact Or.inl ⟨rfl, by omega, by omega, by omega⟩
      · subst eh
        have hlen : (nd (NT (toks t)) p).2.2.1 = 5 := h1.symm
        have s0 : kS t p 0 = 0 := hkS 0 (by show 0 < 5; decide)
        have s1 : kS t p 1 = 40 := hkS 1 (by show 1 < 5; decide)
        have s2 : kS t p 2 = nG z := hkS 2 (by show 2 < 5; decide)
        have s3 : kS t p 3 = nG x := hkS 3 (by show 3 < 5; decide)
        have : k = 0 ∨ k = 1 ∨ k = 2 ∨ k = 3 ∨ k = 4 := by have : k < 5 := hkk; omega
        rcases this with rfl | rfl | rfl | rfl | rfl
        · exact absurd (show (12 : Int) = 16 from es) (by decide)
        · have eg : (40 : Int) = g := eg
          subst eg
          refine Or.inr ⟨3, by omega, by rw [s3, h4.2]; rfl, fun q hq => ?_, by omega⟩
          have : q = 0 ∨ q = 1 ∨ q = 2 := by omega
          rcases this with rfl | rfl | rfl
          · rw [s0]; decide
          · rw [s1]; decide
          · rw [s2, hz.2]; decide
        · have es : nS z = 16 := es; omega
        · have eg : nG x = g := eg
          have : g = 41 := by omega
          subst this
          refine Or.inr ⟨1, by omega, by rw [s1]; rfl, fun q hq => ?_, by omega⟩
          have : q = 0 := by omega
          subst this
          rw [s0]; decide
        · have eg : nG y = g := eg
          have : g = 59 := by omega
          subst this; exact Or.inl ⟨rfl, by omega, by omega, by omega⟩
    · left
      have hm : hs.getD k (0, 0, 0, 0, 0, 0) ∈ hs := by rw [List.getD_eq_getElem?_getD, List.getElem?_eq_getElem hkk]; exact List.getElem_mem _
      have : g = 0 := by rw [← eg]; exact ha _ hm
      subst this; exact ⟨rfl, by omega, by omega, by omega⟩
    · unfold isC at h4
      rcases hl with rfl | ⟨z, rfl, hz⟩
      · subst eh
        have hlen : (nd (NT (toks t)) p).2.2.1 = 2 := h1.symm
        have s0 : kS t p 0 = 123 := hkS 0 (by show 0 < 2; decide)
        have s1 : kS t p 1 = nG x := hkS 1 (by show 1 < 2; decide)
        have : k = 0 ∨ k = 1 := by have : k < 2 := hkk; omega
        rcases this with rfl | rfl
        · have eg : (123 : Int) = g := eg
          subst eg
          refine Or.inr ⟨1, by omega, by rw [s1, h4.2]; rfl, fun q hq => ?_, by omega⟩
          have : q = 0 := by omega
          subst this
          rw [s0]; decide
        · have eg : nG x = g := eg
          have : g = 125 := by omega
          subst this
          exact Or.inr ⟨0, by omega, by rw [s0]; rfl, fun q hq => absurd hq (Nat.not_lt_zero _), by omega⟩
      · subst eh
        have hlen : (nd (NT (toks t)) p).2.2.1 = 3 := h1.symm
        have s0 : kS t p 0 = 123 := hkS 0 (by show 0 < 3; decide)
        have s1 : kS t p 1 = nG z := hkS 1 (by show 1 < 3; decide)
        have s2 : kS t p 2 = nG x := hkS 2 (by show 2 < 3; decide)
        unfold isR isI at hz
        have : k = 0 ∨ k = 1 ∨ k = 2 := by have : k < 3 := hkk; omega
        rcases this with rfl | rfl | rfl
        · have eg : (123 : Int) = g := eg
          subst eg
          refine Or.inr ⟨2, by omega, by rw [s2, h4.2]; rfl, fun q hq => ?_, by omega⟩
          have : q = 0 ∨ q = 1 := by omega
          rcases this with rfl | rfl
          · rw [s0]; decide
          · rw [s1, show nG z = 0 by omega]; decide
        · have es : nS z = 16 := es; omega
        · have eg : nG x = g := eg
          have : g = 125 := by omega
          subst this
          exact Or.inr ⟨0, by omega, by rw [s0]; rfl, fun q hq => absurd hq (Nat.not_lt_zero _), by omega⟩
    · left
      have hm : hs.getD k (0, 0, 0, 0, 0, 0) ∈ hs := by rw [List.getD_eq_getElem?_getD, List.getElem?_eq_getElem hkk]; exact List.getElem_mem _
      have : g = 0 := by rw [← eg]; exact ha _ hm
      subst this; exact ⟨rfl, by omega, by omega, by omega⟩
    · subst eh
      left
      unfold isE at h4 h5
      have : k = 0 ∨ k = 1 ∨ k = 2 := by have : k < 3 := hkk; omega
      rcases this with rfl | rfl | rfl
      · have es : nS x = 16 := es; omega
      · have eg : sgn (toks t) i = g := eg
        rw [eg] at h6
        have : g = 43 ∨ g = 45 ∨ g = 42 ∨ g = 47 := by omega
        rcases this with rfl | rfl | rfl | rfl <;> exact ⟨rfl, by omega, by omega, by omega⟩
      · have es : nS y = 16 := es; omega
    · subst eh
      unfold isE at h4
      unfold isC at h5
      have hlen : (nd (NT (toks t)) p).2.2.1 = 3 := h1.symm
      have s0 : kS t p 0 = 40 := hkS 0 (by show 0 < 3; decide)
      have s1 : kS t p 1 = nG x := hkS 1 (by show 1 < 3; decide)
      have s2 : kS t p 2 = nG y := hkS 2 (by show 2 < 3; decide)
      have : k = 0 ∨ k = 1 ∨ k = 2 := by have : k < 3 := hkk; omega
      rcases this with rfl | rfl | rfl
      · have eg : (40 : Int) = g := eg
        subst eg
        refine Or.inr ⟨2, by omega, by rw [s2, h5.2]; rfl, fun q hq => ?_, by omega⟩
        have : q = 0 ∨ q = 1 := by omega
        rcases this with rfl | rfl
        · rw [s0]; decide
        · rw [s1, h4.2]; decide
      · have es : nS x = 16 := es; omega
      · have eg : nG y = g := eg
        have : g = 41 := by omega
        subst this
        exact Or.inr ⟨0, by omega, by rw [s0]; rfl, fun q hq => absurd hq (Nat.not_lt_zero _), by omega⟩
/-- a MARK's byte -/
theorem mk_byte {t : List Int} {m : Int} (h : 0 ≤ m ∧ m < ((NT (toks t)).length : Int)) (h16 : (nd (NT (toks t)) m).1 = 16) (hg : 40 ≤ (nd (NT (toks t)) m).2.2.2.2.2.2.2) : tb t (pF t m) = (nd (NT (toks t)) m).2.2.2.2.2.2.2 ∧ pF t m < (t.length : Int) := by
  have l := leaf1 h (by omega)
  obtain ⟨l1, l2⟩ := l.2.2.2.2 (by omega)
  unfold lfs at l2
  obtain ⟨l2, l3⟩ := l2
  have eg : (nd (NT (toks t)) m).2.2.2.2.2.2.2 = sgn (toks t) (nd (NT (toks t)) m).2.2.2.2.2.1 := by omega
  obtain ⟨q1, q2⟩ := tq_at l2
  have ep : pF t m = (tk (toks t) (nd (NT (toks t)) m).2.2.2.2.2.1).2.1 := by unfold pF; rw [if_neg (by omega), if_neg (by omega)]
  rw [ep, eg]
  have eg' : sgn (toks t) (nd (NT (toks t)) m).2.2.2.2.2.1 = (tk (toks t) (nd (NT (toks t)) m).2.2.2.2.2.1).2.2.2.2 := rfl
  refine ⟨?_, by omega⟩
  rcases q2 with ⟨-, q, -⟩ | ⟨-, q, -⟩ | ⟨-, q, -⟩ | ⟨-, q, -⟩ | ⟨-, q, -⟩
  · have := key_rng t (tk (toks t) (nd (NT (toks t)) m).2.2.2.2.2.1).2.1 (tk (toks t) (nd (NT (toks t)) m).2.2.2.2.2.1).2.2.1; omega
  · omega
  · omega
  · rw [eg', q]
  · omega
