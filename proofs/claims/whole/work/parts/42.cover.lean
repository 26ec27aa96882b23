/-! WHAT THE PARSE COVERS: each forest the tokens from a to b, and which children a node has -/
abbrev nS (h : zN) : Int := h.1
abbrev nG (h : zN) : Int := h.2.2.2.2.2
def isE (h : zN) : Prop := ((10 ≤ nS h ∧ nS h ≤ 15) ∨ nS h = 17) ∧ nG h = 0
def isI (h : zN) : Prop := (nS h = 2 ∨ nS h = 3 ∨ (5 ≤ nS h ∧ nS h ≤ 9)) ∧ nG h = 0
def isR (h : zN) : Prop := isI h ∨ (nS h = 1 ∧ nG h = 0)
def isC (T : List zT) (sg : Int) (h : zN) : Prop := ((nS h = 16 ∧ sgn T h.2.2.2.1 = sg) ∨ nS h = 17) ∧ nG h = sg
def shp (T : List zT) (so a : Int) (hs : List zN) : Prop :=
  (so = 1 ∧ ∃ x y, hs = [x, y] ∧ isR x ∧ isR y) ∨
  (so = 2 ∧ ∃ e c, hs = [hdN (lfN 12 a 1 0), hdN (lfN 16 (a + 1) 1 0), e, c] ∧ isE e ∧ isC T 59 c) ∨
  (so = 3 ∧ ∃ l c d, hs = [hdN (lfN 12 a 1 0), hdN (lfN 16 (a + 1) 1 40)] ++ l ++ [c, d] ∧ (l = [] ∨ ∃ y, l = [y] ∧ nS y = 4 ∧ nG y = 0) ∧ isC T 41 c ∧ isC T 59 d ∧ sgn T (a + 1) = 40) ∨
  (so = 4 ∧ ∀ h ∈ hs, nG h = 0) ∨
  (so = 5 ∧ ∃ l c, hs = [hdN (lfN 16 a 1 123)] ++ l ++ [c] ∧ (l = [] ∨ ∃ y, l = [y] ∧ isR y) ∧ isC T 125 c ∧ sgn T a = 123) ∨
  ((so = 6 ∨ so = 7) ∧ ∀ h ∈ hs, nG h = 0) ∨
  ((so = 10 ∨ so = 11) ∧ ∃ x y i, hs = [x, hdN (lfN 16 i 1 (sgn T i)), y] ∧ isE x ∧ isE y ∧ ((so = 10 ∧ (sgn T i = 43 ∨ sgn T i = 45)) ∨ (so = 11 ∧ (sgn T i = 42 ∨ sgn T i = 47)))) ∨
  (so = 15 ∧ ∃ e c, hs = [hdN (lfN 16 a 1 40), e, c] ∧ isE e ∧ isC T 41 c ∧ sgn T a = 40)
def lfs (T : List zT) (a so sg : Int) : Prop := (0 ≤ a ∧ a < (T.length : Int)) ∧ ((so = 12 ∧ srt T a = 0 ∧ sg = 0) ∨ (so = 13 ∧ srt T a = 1 ∧ sg = 0) ∨ (so = 14 ∧ srt T a = 2 ∧ sg = 0) ∨ (so = 16 ∧ (sg = 0 ∨ sg = sgn T a)) ∨ ((so = 8 ∨ so = 9) ∧ sg = 0))
def cv (T : List zT) (a : Int) (ts : List (List zN)) (b : Int) : Prop := ∀ C : Int → List (List zN) → Int → Prop, (∀ a, C a [] a) → (∀ a so sg ts b, lfs T a so sg → C (a + 1) ts b → C a (lfN so a 1 sg :: ts) b) → (∀ a sg ts b, (sg = 0 ∨ sg = 41 ∨ sg = 59 ∨ sg = 125) → C a ts b → C a (lfN 17 a 0 sg :: ts) b) → (∀ a m so cs ts b, cs ≠ [] → shp T so a (cs.map hdN) → C a cs m → C m ts b → C a (mkN so a m 0 cs :: ts) b) → C a ts b
section CV
variable {T : List zT}
theorem cv_nil {a : Int} : cv T a [] a := fun _ h _ _ _ => h a
theorem cv_leaf {a so sg b : Int} {ts : List (List zN)} (h : lfs T a so sg) (h2 : cv T (a + 1) ts b) : cv T a (lfN so a 1 sg :: ts) b := fun C k1 k2 k3 k4 => k2 a so sg ts b h (h2 C k1 k2 k3 k4)
theorem cv_miss {a sg b : Int} {ts : List (List zN)} (h : sg = 0 ∨ sg = 41 ∨ sg = 59 ∨ sg = 125) (h2 : cv T a ts b) : cv T a (lfN 17 a 0 sg :: ts) b := fun C k1 k2 k3 k4 => k3 a sg ts b h (h2 C k1 k2 k3 k4)
theorem cv_node {a m so b : Int} {cs ts : List (List zN)} (h0 : cs ≠ []) (h : shp T so a (cs.map hdN)) (h1 : cv T a cs m) (h2 : cv T m ts b) : cv T a (mkN so a m 0 cs :: ts) b := fun C k1 k2 k3 k4 => k4 a m so cs ts b h0 h (h1 C k1 k2 k3 k4) (h2 C k1 k2 k3 k4)
theorem cv_ind {C : Int → List (List zN) → Int → Prop} {a b : Int} {ts : List (List zN)} (h : cv T a ts b) (k1 : ∀ a, C a [] a) (k2 : ∀ a so sg ts b, lfs T a so sg → cv T (a + 1) ts b → C (a + 1) ts b → C a (lfN so a 1 sg :: ts) b) (k3 : ∀ a sg ts b, (sg = 0 ∨ sg = 41 ∨ sg = 59 ∨ sg = 125) → cv T a ts b → C a ts b → C a (lfN 17 a 0 sg :: ts) b) (k4 : ∀ a m so cs ts b, cs ≠ [] → shp T so a (cs.map hdN) → cv T a cs m → cv T m ts b → C a cs m → C m ts b → C a (mkN so a m 0 cs :: ts) b) : C a ts b :=
  (h (fun a ts b => cv T a ts b ∧ C a ts b) (fun a => ⟨cv_nil, k1 a⟩) (fun a so sg ts b h h2 => ⟨cv_leaf h h2.1, k2 a so sg ts b h h2.1 h2.2⟩) (fun a sg ts b h h2 => ⟨cv_miss h h2.1, k3 a sg ts b h h2.1 h2.2⟩) (fun a m so cs ts b h0 h h1 h2 => ⟨cv_node h0 h h1.1 h2.1, k4 a m so cs ts b h0 h h1.1 h2.1 h1.2 h2.2⟩)).2
theorem cv_wf {a b : Int} {ts : List (List zN)} (h : cv T a ts b) : wfF ts :=
  cv_ind (C := fun _ ts _ => wfF ts) h (fun _ => wf_nil) (fun _ _ _ _ _ _ _ i => wf_cons wf_nil i) (fun _ _ _ _ _ _ i => wf_cons wf_nil i) (fun _ _ _ _ _ _ _ _ _ _ i1 i2 => wf_cons i1 i2)
theorem cv_app {a b c : Int} {ts us : List (List zN)} (h : cv T a ts b) (h2 : cv T b us c) : cv T a (ts ++ us) c := by
  refine cv_ind (C := fun a ts b => ∀ c us, cv T b us c → cv T a (ts ++ us) c) h (fun _ _ _ h => h) (fun _ _ _ _ _ hl _ i c us h => cv_leaf hl (i c us h)) (fun _ _ _ _ hl _ i c us h => cv_miss hl (i c us h)) (fun _ _ _ _ _ _ h0 hs h1 _ _ i c us h => cv_node h0 hs h1 (i c us h)) c us h2
theorem cv_le {a b : Int} {ts : List (List zN)} (h : cv T a ts b) : a ≤ b :=
  cv_ind (C := fun a _ b => a ≤ b) h (fun _ => Int.le_refl _) (fun _ _ _ _ _ _ _ i => by omega) (fun _ _ _ _ _ _ i => i) (fun _ _ _ _ _ _ _ _ _ _ i1 i2 => Int.le_trans i1 i2)
/-- bounds of each node -/
theorem cv_bd {a b : Int} {ts : List (List zN)} (h : cv T a ts b) : ∀ ν ∈ ts.flatten, a ≤ ν.2.2.2.1 ∧ 0 ≤ ν.2.2.2.2.1 ∧ ν.2.2.2.1 + ν.2.2.2.2.1 ≤ b := by
  refine cv_ind (C := fun a ts b => ∀ ν ∈ ts.flatten, a ≤ ν.2.2.2.1 ∧ 0 ≤ ν.2.2.2.2.1 ∧ ν.2.2.2.1 + ν.2.2.2.2.1 ≤ b) h (fun _ ν hν => absurd hν List.not_mem_nil) ?_ ?_ ?_
  · intro a so sg ts b _ h2 i ν hν
    have := cv_le h2
    rcases List.mem_append.mp (show ν ∈ lfN so a 1 sg ++ ts.flatten from hν) with z | z
    · have z := List.mem_singleton.mp z
      subst z
      show a ≤ a ∧ 0 ≤ a + 1 - a ∧ a + (a + 1 - a) ≤ b
      omega
    · have := i ν z; omega
  · intro a sg ts b _ h2 i ν hν
    have := cv_le h2
    rcases List.mem_append.mp (show ν ∈ lfN 17 a 0 sg ++ ts.flatten from hν) with z | z
    · have z := List.mem_singleton.mp z
      subst z
      show a ≤ a ∧ 0 ≤ a + 0 - a ∧ a + (a + 0 - a) ≤ b
      omega
    · exact i ν z
  · intro a m so cs ts b _ _ h1 h2 i1 i2 ν hν
    have e1 := cv_le h1
    have e2 := cv_le h2
    rcases List.mem_append.mp (show ν ∈ mkN so a m 0 cs ++ ts.flatten from hν) with z | z
    · rcases List.mem_cons.mp z with z | z
      · subst z
        show a ≤ a ∧ 0 ≤ m - a ∧ a + (m - a) ≤ b
        omega
      · have := i1 ν z; omega
    · have := i2 ν z; omega
theorem cv_clos {sg a : Int} (h0 : 0 ≤ a) (hs : sg = 41 ∨ sg = 59 ∨ sg = 125) : cv T a [(clos T sg a).1] (clos T sg a).2 ∧ isC T sg (hdN (clos T sg a).1) := by
  unfold clos
  split
  · rename_i h
    have hl := sgn_lt (T := T) (i := a) (by omega)
    exact ⟨cv_leaf ⟨hl, Or.inr (Or.inr (Or.inr (Or.inl ⟨rfl, Or.inr h.symm⟩)))⟩ cv_nil, Or.inl ⟨rfl, h⟩, rfl⟩
  · exact ⟨cv_miss (Or.inr hs) cv_nil, Or.inr rfl, rfl⟩
theorem cv_mark {a sg : Int} (h : 0 ≤ a ∧ a < (T.length : Int)) (hs : sg = 0 ∨ sg = sgn T a) : cv T a [lfN 16 a 1 sg] (a + 1) := cv_leaf ⟨h, Or.inr (Or.inr (Or.inr (Or.inl ⟨rfl, hs⟩)))⟩ cv_nil
theorem cv_one {a so b : Int} {cs : List (List zN)} (h0 : cs ≠ []) (h : shp T so a (cs.map hdN)) (h1 : cv T a cs b) : cv T a [mkN so a b 0 cs] b := cv_node h0 h h1 cv_nil
/-- balanced items -/
theorem cv_bal : ∀ (f : Nat) (ts : List (List zN)) (a b : Int), ts ≠ [] → ts.length ≤ f → cv T a ts b → (∀ τ ∈ ts, isR (hdN τ)) → runI a ts b → cv T a [balF f ts] b ∧ isR (hdN (balF f ts))
  | 0, ts, _, _, h, hl, _, _, _ => absurd (List.length_eq_zero_iff.mp (by omega)) h
  | f + 1, ts, a, b, hne, hl, hc, hr, hrun => by sorry
end CV
