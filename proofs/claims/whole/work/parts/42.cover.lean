/-! WHAT THE PARSE COVERS: each forest the tokens from a to b, and which children a node has -/
abbrev nS (h : zN) : Int := h.1
abbrev nG (h : zN) : Int := h.2.2.2.2.2
def isE (h : zN) : Prop := ((10 ≤ nS h ∧ nS h ≤ 15) ∨ nS h = 17) ∧ nG h = 0
def isI (h : zN) : Prop := (nS h = 2 ∨ nS h = 3 ∨ (5 ≤ nS h ∧ nS h ≤ 9)) ∧ nG h = 0
def isR (h : zN) : Prop := isI h ∨ (nS h = 1 ∧ nG h = 0)
def isC (T : List zT) (sg : Int) (h : zN) : Prop := ((nS h = 16 ∧ sgn T h.2.2.2.1 = sg) ∨ nS h = 17) ∧ nG h = sg
def shp (T : List zT) (so a : Int) (hs : List zN) : Prop :=
  (so = 1 ∧ ∃ x y, hs = [x, y] ∧ isR x ∧ isR y) ∨
  (so = 2 ∧ ∃ e c, hs = [hdN (lfN 12 a 1 0), hdN (lfN 16 (a + 1) 1 0), e, c] ∧ isE e ∧ isC T 59 c) ∨
  (so = 3 ∧ ∃ l c d, hs = [hdN (lfN 12 a 1 0), hdN (lfN 16 (a + 1) 1 40)] ++ l ++ [c, d] ∧ (l = [] ∨ ∃ y, l = [y] ∧ nS y = 4 ∧ nG y = 0) ∧ isC T 41 c ∧ isC T 59 d ∧ sgn T (a + 1) = 40) ∨
  (so = 4 ∧ ∀ h ∈ hs, nG h = 0) ∨
  (so = 5 ∧ ∃ l c, hs = [hdN (lfN 16 a 1 123)] ++ l ++ [c] ∧ (l = [] ∨ ∃ y, l = [y] ∧ isR y) ∧ isC T 125 c ∧ sgn T a = 123) ∨
  ((so = 6 ∨ so = 7) ∧ (∃ r, hs = hdN (lfN 16 a 1 0) :: r) ∧ ∀ h ∈ hs, nG h = 0) ∨
  ((so = 10 ∨ so = 11) ∧ ∃ x y i, hs = [x, hdN (lfN 16 i 1 (sgn T i)), y] ∧ isE x ∧ isE y ∧ ((so = 10 ∧ (sgn T i = 43 ∨ sgn T i = 45)) ∨ (so = 11 ∧ (sgn T i = 42 ∨ sgn T i = 47)))) ∨
  (so = 15 ∧ ∃ e c, hs = [hdN (lfN 16 a 1 40), e, c] ∧ isE e ∧ isC T 41 c ∧ sgn T a = 40)
def lfs (T : List zT) (a so sg : Int) : Prop := (0 ≤ a ∧ a < (T.length : Int)) ∧ ((so = 12 ∧ srt T a = 0 ∧ sg = 0) ∨ (so = 13 ∧ srt T a = 1 ∧ sg = 0) ∨ (so = 14 ∧ srt T a = 2 ∧ sg = 0) ∨ (so = 16 ∧ (sg = 0 ∨ sg = sgn T a)) ∨ ((so = 8 ∨ so = 9) ∧ sg = 0))
def cv (T : List zT) (a : Int) (ts : List (List zN)) (b : Int) : Prop := ∀ C : Int → List (List zN) → Int → Prop, (∀ a, C a [] a) → (∀ a so sg ts b, lfs T a so sg → C (a + 1) ts b → C a (lfN so a 1 sg :: ts) b) → (∀ a sg ts b, (sg = 0 ∨ sg = 41 ∨ sg = 59 ∨ sg = 125) → C a ts b → C a (lfN 17 a 0 sg :: ts) b) → (∀ a m so cs ts b, cs ≠ [] → shp T so a (cs.map hdN) → C a cs m → C m ts b → C a (mkN so a m 0 cs :: ts) b) → C a ts b
section CV
variable {T : List zT}
theorem cv_nil {a : Int} : cv T a [] a := fun _ h _ _ _ => h a
theorem cv_leaf {a so sg b : Int} {ts : List (List zN)} (h : lfs T a so sg) (h2 : cv T (a + 1) ts b) : cv T a (lfN so a 1 sg :: ts) b := fun C k1 k2 k3 k4 => k2 a so sg ts b h (h2 C k1 k2 k3 k4)
theorem cv_miss {a sg b : Int} {ts : List (List zN)} (h : sg = 0 ∨ sg = 41 ∨ sg = 59 ∨ sg = 125) (h2 : cv T a ts b) : cv T a (lfN 17 a 0 sg :: ts) b := fun C k1 k2 k3 k4 => k3 a sg ts b h (h2 C k1 k2 k3 k4)
theorem cv_node {a m so b : Int} {cs ts : List (List zN)} (h0 : cs ≠ []) (h : shp T so a (cs.map hdN)) (h1 : cv T a cs m) (h2 : cv T m ts b) : cv T a (mkN so a m 0 cs :: ts) b := fun C k1 k2 k3 k4 => k4 a m so cs ts b h0 h (h1 C k1 k2 k3 k4) (h2 C k1 k2 k3 k4)
theorem cv_ind {C : Int → List (List zN) → Int → Prop} {a b : Int} {ts : List (List zN)} (h : cv T a ts b) (k1 : ∀ a, C a [] a) (k2 : ∀ a so sg ts b, lfs T a so sg → cv T (a + 1) ts b → C (a + 1) ts b → C a (lfN so a 1 sg :: ts) b) (k3 : ∀ a sg ts b, (sg = 0 ∨ sg = 41 ∨ sg = 59 ∨ sg = 125) → cv T a ts b → C a ts b → C a (lfN 17 a 0 sg :: ts) b) (k4 : ∀ a m so cs ts b, cs ≠ [] → shp T so a (cs.map hdN) → cv T a cs m → cv T m ts b → C a cs m → C m ts b → C a (mkN so a m 0 cs :: ts) b) : C a ts b :=
  (h (fun a ts b => cv T a ts b ∧ C a ts b) (fun a => ⟨cv_nil, k1 a⟩) (fun a so sg ts b h h2 => ⟨cv_leaf h h2.1, k2 a so sg ts b h h2.1 h2.2⟩) (fun a sg ts b h h2 => ⟨cv_miss h h2.1, k3 a sg ts b h h2.1 h2.2⟩) (fun a m so cs ts b h0 h h1 h2 => ⟨cv_node h0 h h1.1 h2.1, k4 a m so cs ts b h0 h h1.1 h2.1 h1.2 h2.2⟩)).2
theorem cv_wf {a b : Int} {ts : List (List zN)} (h : cv T a ts b) : wfF ts :=
  cv_ind (C := fun _ ts _ => wfF ts) h (fun _ => wf_nil) (fun _ _ _ _ _ _ _ i => wf_cons wf_nil i) (fun _ _ _ _ _ _ i => wf_cons wf_nil i) (fun _ _ _ _ _ _ _ _ _ _ i1 i2 => wf_cons i1 i2)
theorem cv_app {a b c : Int} {ts us : List (List zN)} (h : cv T a ts b) (h2 : cv T b us c) : cv T a (ts ++ us) c := by
  refine cv_ind (C := fun a ts b => ∀ c us, cv T b us c → cv T a (ts ++ us) c) h (fun _ _ _ h => h) (fun _ _ _ _ _ hl _ i c us h => cv_leaf hl (i c us h)) (fun _ _ _ _ hl _ i c us h => cv_miss hl (i c us h)) (fun _ _ _ _ _ _ h0 hs h1 _ _ i c us h => cv_node h0 hs h1 (i c us h)) c us h2
theorem cv_le {a b : Int} {ts : List (List zN)} (h : cv T a ts b) : a ≤ b :=
  cv_ind (C := fun a _ b => a ≤ b) h (fun _ => Int.le_refl _) (fun _ _ _ _ _ _ _ i => by omega) (fun _ _ _ _ _ _ i => i) (fun _ _ _ _ _ _ _ _ _ _ i1 i2 => Int.le_trans i1 i2)
/-- bounds of each node -/
theorem cv_bd {a b : Int} {ts : List (List zN)} (h : cv T a ts b) : ∀ ν ∈ ts.flatten, a ≤ ν.2.2.2.1 ∧ 0 ≤ ν.2.2.2.2.1 ∧ ν.2.2.2.1 + ν.2.2.2.2.1 ≤ b := by
  refine cv_ind (C := fun a ts b => ∀ ν ∈ ts.flatten, a ≤ ν.2.2.2.1 ∧ 0 ≤ ν.2.2.2.2.1 ∧ ν.2.2.2.1 + ν.2.2.2.2.1 ≤ b) h (fun _ ν hν => absurd hν List.not_mem_nil) ?_ ?_ ?_
  · intro a so sg ts b _ h2 i ν hν
    have := cv_le h2
    rcases List.mem_append.mp (show ν ∈ lfN so a 1 sg ++ ts.flatten from hν) with z | z
    · have z := List.mem_singleton.mp z
      subst z
      show a ≤ a ∧ 0 ≤ a + 1 - a ∧ a + (a + 1 - a) ≤ b
      omega
    · have := i ν z; omega
  · intro a sg ts b _ h2 i ν hν
    have := cv_le h2
    rcases List.mem_append.mp (show ν ∈ lfN 17 a 0 sg ++ ts.flatten from hν) with z | z
    · have z := List.mem_singleton.mp z
      subst z
      show a ≤ a ∧ 0 ≤ a + 0 - a ∧ a + (a + 0 - a) ≤ b
      omega
    · exact i ν z
  · intro a m so cs ts b _ _ h1 h2 i1 i2 ν hν
    have e1 := cv_le h1
    have e2 := cv_le h2
    rcases List.mem_append.mp (show ν ∈ mkN so a m 0 cs ++ ts.flatten from hν) with z | z
    · rcases List.mem_cons.mp z with z | z
      · subst z
        show a ≤ a ∧ 0 ≤ m - a ∧ a + (m - a) ≤ b
        omega
      · have := i1 ν z; omega
    · have := i2 ν z; omega
theorem cv_clos {sg a : Int} (h0 : 0 ≤ a) (hs : sg = 41 ∨ sg = 59 ∨ sg = 125) : cv T a [(clos T sg a).1] (clos T sg a).2 ∧ isC T sg (hdN (clos T sg a).1) := by
  unfold clos
  split
  · rename_i h
    have hl := sgn_lt (T := T) (i := a) (by omega)
    exact ⟨cv_leaf ⟨hl, Or.inr (Or.inr (Or.inr (Or.inl ⟨rfl, Or.inr h.symm⟩)))⟩ cv_nil, Or.inl ⟨rfl, h⟩, rfl⟩
  · exact ⟨cv_miss (Or.inr hs) cv_nil, Or.inr rfl, rfl⟩
theorem cv_mark {a sg : Int} (h : 0 ≤ a ∧ a < (T.length : Int)) (hs : sg = 0 ∨ sg = sgn T a) : cv T a [lfN 16 a 1 sg] (a + 1) := cv_leaf ⟨h, Or.inr (Or.inr (Or.inr (Or.inl ⟨rfl, hs⟩)))⟩ cv_nil
theorem cv_one {a so b : Int} {cs : List (List zN)} (h0 : cs ≠ []) (h : shp T so a (cs.map hdN)) (h1 : cv T a cs b) : cv T a [mkN so a b 0 cs] b := cv_node h0 h h1 cv_nil
theorem cv_split {a b : Int} {ts : List (List zN)} (h : cv T a ts b) : ∀ us vs, ts = us ++ vs → ∃ m, cv T a us m ∧ cv T m vs b := by
  refine cv_ind (C := fun a ts b => ∀ us vs, ts = us ++ vs → ∃ m, cv T a us m ∧ cv T m vs b) h ?_ ?_ ?_ ?_
  · intro a us vs e
    obtain ⟨rfl, rfl⟩ := List.append_eq_nil_iff.mp e.symm
    exact ⟨a, cv_nil, cv_nil⟩
  · intro a so sg ts b hl h2 i us vs e
    cases us with
    | nil =>
      have e : lfN so a 1 sg :: ts = vs := e
      exact ⟨a, cv_nil, by rw [← e]; exact cv_leaf hl h2⟩
    | cons u us =>
      have e : lfN so a 1 sg :: ts = u :: (us ++ vs) := e
      obtain ⟨e1, e2⟩ := List.cons.inj e
      obtain ⟨m, m1, m2⟩ := i us vs e2
      exact ⟨m, by rw [← e1]; exact cv_leaf hl m1, m2⟩
  · intro a sg ts b hl h2 i us vs e
    cases us with
    | nil =>
      have e : lfN 17 a 0 sg :: ts = vs := e
      exact ⟨a, cv_nil, by rw [← e]; exact cv_miss hl h2⟩
    | cons u us =>
      have e : lfN 17 a 0 sg :: ts = u :: (us ++ vs) := e
      obtain ⟨e1, e2⟩ := List.cons.inj e
      obtain ⟨m, m1, m2⟩ := i us vs e2
      exact ⟨m, by rw [← e1]; exact cv_miss hl m1, m2⟩
  · intro a m so cs ts b h0 hs h1 h2 _ i us vs e
    cases us with
    | nil =>
      have e : mkN so a m 0 cs :: ts = vs := e
      exact ⟨a, cv_nil, by rw [← e]; exact cv_node h0 hs h1 h2⟩
    | cons u us =>
      have e : mkN so a m 0 cs :: ts = u :: (us ++ vs) := e
      obtain ⟨e1, e2⟩ := List.cons.inj e
      obtain ⟨q, m1, m2⟩ := i us vs e2
      exact ⟨q, by rw [← e1]; exact cv_node h0 hs h1 m1, m2⟩
theorem gl_cons {x : List zN} {ts : List (List zN)} (h : ts ≠ []) : (x :: ts).getLastD [] = ts.getLastD [] := by
  cases ts with
  | nil => exact absurd rfl h
  | cons y r => simp [List.getLastD_cons]
theorem cv_ends {a b : Int} {ts : List (List zN)} (h : cv T a ts b) : (ts = [] → a = b) ∧ (ts ≠ [] → nFr (ts.headD []) = a ∧ nUp (ts.getLastD []) = b) := by
  have key : ∀ (a m b : Int) (τ : List zN) (ts : List (List zN)), nFr τ = a → nUp τ = m → ((ts = [] → m = b) ∧ (ts ≠ [] → nFr (ts.headD []) = m ∧ nUp (ts.getLastD []) = b)) → ((τ :: ts = [] → a = b) ∧ (τ :: ts ≠ [] → nFr ((τ :: ts).headD []) = a ∧ nUp ((τ :: ts).getLastD []) = b)) := by
    intro a m b τ ts h1 h2 i
    refine ⟨fun z => (by cases z), fun _ => ⟨h1, ?_⟩⟩
    by_cases e : ts = []
    · subst e
      exact h2.trans (i.1 rfl)
    · rw [gl_cons e]
      exact (i.2 e).2
  refine cv_ind (C := fun a ts b => (ts = [] → a = b) ∧ (ts ≠ [] → nFr (ts.headD []) = a ∧ nUp (ts.getLastD []) = b)) h (fun a => ⟨fun _ => rfl, fun z => absurd rfl z⟩) ?_ ?_ ?_
  · intro a so sg ts b _ _ i
    exact key a (a + 1) b _ ts mkN_fr mkN_up i
  · intro a sg ts b _ _ i
    exact key a a b _ ts mkN_fr (by show nUp (mkN 17 a (a + 0) sg []) = a; rw [mkN_up]; omega) i
  · intro a m so cs ts b _ _ _ _ _ i
    exact key a m b _ ts mkN_fr mkN_up i
theorem cv_fr1 {a b : Int} {τ : List zN} (h : cv T a [τ] b) : nFr τ = a := ((cv_ends h).2 (fun z => by cases z)).1
/-- balanced items -/
theorem cv_bal : ∀ (f : Nat) (ts : List (List zN)) (a b : Int), ts ≠ [] → ts.length ≤ f → cv T a ts b → (∀ τ ∈ ts, isR (hdN τ)) → cv T a [balF f ts] b ∧ isR (hdN (balF f ts))
  | 0, ts, _, _, h, hl, _, _ => absurd (List.length_eq_zero_iff.mp (by omega)) h
  | f + 1, ts, a, b, hne, hl, hc, hr => by
    match ts, hne, hl, hc, hr with
    | [t], _, _, hc, hr => exact ⟨hc, hr t (List.mem_singleton.mpr rfl)⟩
    | t :: u :: r, hne, hl, hc, hr =>
      have l2 : 2 ≤ (t :: u :: r).length := by simp
      generalize t :: u :: r = ts at hne hl hc hr l2
      have p1 := pw2_pos ts.length
      have p2 := pw2_lt l2
      obtain ⟨m, c1, c2⟩ := cv_split hc (ts.take (pw2 ts.length)) (ts.drop (pw2 ts.length)) (List.take_append_drop _ _).symm
      have lt : (ts.take (pw2 ts.length)).length = pw2 ts.length := by rw [List.length_take]; omega
      have ld : (ts.drop (pw2 ts.length)).length = ts.length - pw2 ts.length := List.length_drop
      obtain ⟨i1, r1⟩ := cv_bal f _ a m (fun z => by rw [z] at lt; simp at lt; omega) (by omega) c1 (fun τ h => hr τ (List.mem_of_mem_take h))
      obtain ⟨i2, r2⟩ := cv_bal f _ m b (fun z => by rw [z] at ld; simp at ld; omega) (by omega) c2 (fun τ h => hr τ (List.mem_of_mem_drop h))
      obtain ⟨e1, e2⟩ := (cv_ends hc).2 hne
      rw [balF_two f ts l2, e1, e2]
      exact ⟨cv_one (fun z => by cases z) (Or.inl ⟨rfl, _, _, rfl, r1, r2⟩) (cv_app i1 i2), Or.inr ⟨rfl, rfl⟩⟩
theorem cv_balT {a b : Int} {ts : List (List zN)} (h : cv T a ts b) (hi : ∀ τ ∈ ts, isI (hdN τ)) : cv T a (bal ts) b ∧ ((bal ts).map hdN = [] ∨ ∃ y, (bal ts).map hdN = [y] ∧ isR y) := by
  match ts, h, hi with
  | [], h, _ => exact ⟨h, Or.inl rfl⟩
  | t :: r, h, hi =>
    obtain ⟨c, q⟩ := cv_bal (t :: r).length (t :: r) a b (fun z => by cases z) (Nat.le_refl _) h (fun τ hτ => Or.inl (hi τ hτ))
    exact ⟨c, Or.inr ⟨_, rfl, q⟩⟩
def okV (T : List zT) (mo : Nat) (le : List zN) (a : Int) (r : List (List zN) × Int) : Prop := match mo with
  | 0 => cv T a r.1 r.2 ∧ ∀ τ ∈ r.1, isI (hdN τ)
  | 1 => ∃ τ, r.1 = [τ] ∧ cv T a [τ] r.2 ∧ isI (hdN τ)
  | 2 => ∃ τ, r.1 = [τ] ∧ cv T a [τ] r.2 ∧ nG (hdN τ) = 0
  | 3 => ∃ τ, r.1 = [τ] ∧ cv T a [τ] r.2 ∧ isE (hdN τ)
  | 4 => ∃ τ, r.1 = [τ] ∧ cv T a [τ] r.2 ∧ isE (hdN τ)
  | 5 => ∃ τ, r.1 = [τ] ∧ cv T a [τ] r.2 ∧ isE (hdN τ)
  | 6 => ∀ b, cv T b [le] a → isE (hdN le) → ∃ τ, r.1 = [τ] ∧ cv T b [τ] r.2 ∧ isE (hdN τ)
  | 7 => ∀ b, cv T b [le] a → isE (hdN le) → ∃ τ, r.1 = [τ] ∧ cv T b [τ] r.2 ∧ isE (hdN τ)
  | _ => cv T a r.1 r.2 ∧ ∀ τ ∈ r.1, nG (hdN τ) = 0
theorem P_cv (hT : tkOK T) : ∀ (f mo : Nat) (ne : Int) (le : List zN) (a : Int) (r : List (List zN) × Int), 0 ≤ a → a ≤ (T.length : Int) → (mo = 1 → a < (T.length : Int)) → P T f mo ne le a = some r → okV T mo le a r
  | 0, _, _, _, _, _, _, _, _, h => by simp [P] at h
  | f + 1, mo, ne, le, a, r, h0, hl, hm, h => by
    have ih := P_cv hT f
    unfold P at h
    match mo, hm, h with
    | 0, _, h =>
      simp only at h
      split at h
      · have e := Option.some.inj h
        rw [← e]
        exact ⟨cv_nil, fun τ hτ => absurd hτ List.not_mem_nil⟩
      · rename_i hc
        have hlt : a < (T.length : Int) := by
          by_cases z : a < (T.length : Int)
          · exact z
          · exact absurd (Or.inl z) hc
        obtain ⟨e, e1, e2⟩ := ob_some h
        obtain ⟨r2, e3, e4⟩ := ob_some e2
        obtain ⟨_, -, -, g3, g4, -⟩ := P_ok1 hT e1 h0 hlt
        obtain ⟨τ, t1, t2, t3⟩ := ih 1 _ _ _ _ h0 hl (fun _ => hlt) e1
        obtain ⟨u1, u2⟩ := ih 0 _ _ _ _ (by omega) g4 (fun z => by omega) e3
        rw [← Option.some.inj e4]
        show cv T a (e.1 ++ r2.1) r2.2 ∧ ∀ τ ∈ e.1 ++ r2.1, isI (hdN τ)
        rw [t1]
        refine ⟨cv_app t2 u1, fun σ hσ => ?_⟩
        rcases List.mem_append.mp hσ with z | z
        · rw [List.mem_singleton.mp z]; exact t3
        · exact u2 σ z
    | 1, hm, h =>
      have hlt := hm rfl
      simp only at h
      split at h
      · rename_i hc
        obtain ⟨e, e1, e2⟩ := ob_some h
        obtain ⟨b, e3, e4⟩ := ob_some e2
        obtain ⟨_, -, -, g3, g4, -⟩ := P_ok3 hT e1 (by omega) (by omega)
        obtain ⟨_, -, -, g5, g6⟩ := okB_one (P_ok2 hT e3 (by omega) g4) g4
        obtain ⟨τ, t1, t2, t3⟩ := ih 3 _ _ _ _ (by omega) (by omega) (fun z => by omega) e1
        obtain ⟨σ, s1, s2, s3⟩ := ih 2 _ _ _ _ (by omega) g4 (fun z => by omega) e3
        have hmk := cv_mark (T := T) (a := a) (sg := 0) ⟨h0, hlt⟩ (Or.inl rfl)
        split at e4
        · rename_i h2
          have hbl := (sgn_lt (T := T) (i := b.2) (by omega))
          obtain ⟨b2, e5, e6⟩ := ob_some e4
          obtain ⟨ρ, q1, q2, q3⟩ := ih 2 _ _ _ _ (by omega) (by omega) (fun z => by omega) e5
          rw [← Option.some.inj e6]
          refine ⟨_, rfl, ?_, Or.inr (Or.inr ⟨by show (5 : Int) ≤ 6; decide, by show (6 : Int) ≤ 9; decide⟩), rfl⟩
          rw [t1, s1, q1]
          refine cv_one (fun z => by cases z) (Or.inr (Or.inr (Or.inr (Or.inr (Or.inr (Or.inl ⟨Or.inl rfl, ⟨_, rfl⟩, fun h hh => ?_⟩)))))) (cv_app (cv_app (cv_app (cv_app hmk t2) s2) (cv_mark (sg := 0) hbl (Or.inl rfl))) q2)
          have hh : h ∈ [hdN (lfN 16 a 1 0), hdN τ, hdN σ, hdN (lfN 16 b.2 1 0), hdN ρ] := hh
          simp only [List.mem_cons, List.not_mem_nil, or_false] at hh
          rcases hh with rfl | rfl | rfl | rfl | rfl
          · rfl
          · exact t3.2
          · exact s3
          · rfl
          · exact q3
        · rw [← Option.some.inj e4]
          have h67 : (if sgn T a = 1 then (6 : Int) else 7) = 6 ∨ (if sgn T a = 1 then (6 : Int) else 7) = 7 := by split; exact Or.inl rfl; exact Or.inr rfl
          refine ⟨_, rfl, ?_, Or.inr (Or.inr ⟨by show (5 : Int) ≤ (if sgn T a = 1 then (6 : Int) else 7); omega, by show (if sgn T a = 1 then (6 : Int) else 7) ≤ 9; omega⟩), rfl⟩
          rw [t1, s1]
          refine cv_one (fun z => by cases z) (Or.inr (Or.inr (Or.inr (Or.inr (Or.inr (Or.inl ⟨h67, ⟨_, rfl⟩, fun h hh => ?_⟩)))))) (cv_app (cv_app hmk t2) s2)
          have hh : h ∈ [hdN (lfN 16 a 1 0), hdN τ, hdN σ] := hh
          simp only [List.mem_cons, List.not_mem_nil, or_false] at hh
          rcases hh with rfl | rfl | rfl
          · rfl
          · exact t3.2
          · exact s3
      · split at h
        · rename_i h2
          obtain ⟨is, e1, e2⟩ := ob_some h
          obtain ⟨g1, g2, -⟩ := P_ok0 hT e1 (by omega) (by omega)
          obtain ⟨c1, c2⟩ := ih 0 _ _ _ _ (by omega) (by omega) (fun z => by omega) e1
          obtain ⟨b1, b2⟩ := cv_balT c1 c2
          obtain ⟨k1, k2⟩ := cv_clos (T := T) (sg := 125) (a := is.2) (by omega) (by decide)
          rw [← Option.some.inj e2]
          refine ⟨_, rfl, cv_one (fun z => by cases z) (Or.inr (Or.inr (Or.inr (Or.inr (Or.inl ⟨rfl, (bal is.1).map hdN, _, ?_, b2, k2, h2.1⟩))))) (cv_app (cv_app (cv_mark (T := T) (a := a) (sg := 123) ⟨h0, hlt⟩ (Or.inr h2.1.symm)) b1) k1), Or.inr (Or.inr ⟨by show (5 : Int) ≤ 5; decide, by show (5 : Int) ≤ 9; decide⟩), rfl⟩
          simp
        · split at h
          · rw [← Option.some.inj h]
            exact ⟨_, rfl, cv_leaf ⟨⟨h0, hlt⟩, Or.inr (Or.inr (Or.inr (Or.inr ⟨Or.inl rfl, rfl⟩)))⟩ cv_nil, Or.inr (Or.inr ⟨by show (5 : Int) ≤ 8; decide, by show (8 : Int) ≤ 9; decide⟩), rfl⟩
          · split at h
            · rename_i h4
              have h2 := (sgn_lt (T := T) (i := a + 1) (by omega))
              obtain ⟨e, e1, e2⟩ := ob_some h
              obtain ⟨_, -, -, g3, g4, -⟩ := P_ok3 hT e1 (by omega) (by omega)
              obtain ⟨τ, t1, t2, t3⟩ := ih 3 _ _ _ _ (by omega) (by omega) (fun z => by omega) e1
              obtain ⟨k1, k2⟩ := cv_clos (T := T) (sg := 59) (a := e.2) (by omega) (by decide)
              rw [← Option.some.inj e2]
              refine ⟨_, rfl, ?_, Or.inl rfl, rfl⟩
              rw [t1]
              refine cv_one (fun z => by cases z) (Or.inr (Or.inl ⟨rfl, _, _, rfl, t3, k2⟩)) (cv_app (cv_app (ts := [lfN 12 a 1 0, lfN 16 (a + 1) 1 0]) (cv_leaf ⟨⟨h0, hlt⟩, Or.inl ⟨rfl, h4.1.1, rfl⟩⟩ (cv_mark h2 (Or.inl rfl))) ?_) k1)
              rw [show a + 1 + 1 = a + 2 by omega]
              exact t2
            · split at h
              · rename_i h5
                have h2 := (sgn_lt (T := T) (i := a + 1) (by omega))
                obtain ⟨q, e1, e2⟩ := ob_some h
                have hq : cv T (a + 2) q.1 q.2 ∧ 0 ≤ q.2 ∧ (q.1.map hdN = [] ∨ ∃ y, q.1.map hdN = [y] ∧ nS y = 4 ∧ nG y = 0) := by
                  split at e1
                  · rw [← Option.some.inj e1]
                    exact ⟨cv_nil, by show 0 ≤ a + 2; omega, Or.inl rfl⟩
                  · obtain ⟨e, f1, f2⟩ := ob_some e1
                    obtain ⟨r2, f3, f4⟩ := ob_some f2
                    obtain ⟨_, -, -, g3, g4, -⟩ := P_ok3 hT f1 (by omega) (by omega)
                    obtain ⟨g5, g6, -⟩ := P_ok8 hT f3 (by omega) g4
                    obtain ⟨τ, t1, t2, t3⟩ := ih 3 _ _ _ _ (by omega) (by omega) (fun z => by omega) f1
                    obtain ⟨u1, u2⟩ := ih 8 _ _ _ _ (by omega) g4 (fun z => by omega) f3
                    rw [← Option.some.inj f4]
                    refine ⟨?_, by show 0 ≤ r2.2; omega, Or.inr ⟨_, rfl, rfl, rfl⟩⟩
                    rw [t1]
                    refine cv_one (fun z => by cases z) (Or.inr (Or.inr (Or.inr (Or.inl ⟨rfl, fun h hh => ?_⟩)))) (cv_app t2 u1)
                    obtain ⟨w, w1, w2⟩ := List.mem_map.mp hh
                    rw [← w2]
                    rcases List.mem_append.mp w1 with z | z
                    · rw [List.mem_singleton.mp z]; exact t3.2
                    · exact u2 w z
                obtain ⟨c1, c2, c3⟩ := hq
                obtain ⟨k1, k2⟩ := cv_clos (T := T) (sg := 41) (a := q.2) (by omega) (by decide)
                obtain ⟨m1, m2⟩ := cv_clos (T := T) (sg := 59) (a := (clos T 41 q.2).2) (by have := cv_le k1; omega) (by decide)
                rw [← Option.some.inj e2]
                have hc : cv T (a + 1 + 1) q.1 q.2 := by rw [show a + 1 + 1 = a + 2 by omega]; exact c1
                refine ⟨_, rfl, cv_one (fun z => by cases z) (Or.inr (Or.inr (Or.inl ⟨rfl, q.1.map hdN, _, _, ?_, c3, k2, m2, h5.2⟩))) (cv_app (cv_app (ts := [lfN 12 a 1 0, lfN 16 (a + 1) 1 40]) (cv_leaf ⟨⟨h0, hlt⟩, Or.inl ⟨rfl, h5.1.1, rfl⟩⟩ (cv_mark h2 (Or.inr h5.2.symm))) hc) (cv_app k1 m1)), Or.inr (Or.inl rfl), rfl⟩
                simp
              · rw [← Option.some.inj h]
                exact ⟨_, rfl, cv_leaf ⟨⟨h0, hlt⟩, Or.inr (Or.inr (Or.inr (Or.inr ⟨Or.inr rfl, rfl⟩)))⟩ cv_nil, Or.inr (Or.inr ⟨by show (5 : Int) ≤ 9; decide, by show (9 : Int) ≤ 9; decide⟩), rfl⟩
    | 2, _, h =>
      simp only at h
      split at h
      · rename_i hc
        have hlt := istart_lt (T := T) (i := a) hc
        obtain ⟨τ, t1, t2, t3⟩ := ih 1 _ _ _ _ h0 hl (fun _ => hlt.2) h
        exact ⟨τ, t1, t2, t3.2⟩
      · rw [← Option.some.inj h]
        exact ⟨_, rfl, cv_miss (Or.inl rfl) cv_nil, rfl⟩
    | 3, _, h =>
      obtain ⟨e, e1, e2⟩ := ob_some h
      obtain ⟨_, -, -, g3, g4, -⟩ := P_ok4 hT e1 h0 hl
      obtain ⟨τ, t1, t2, t3⟩ := ih 4 _ _ _ _ h0 hl (fun z => by omega) e1
      rw [t1, show ([τ] : List (List zN)).flatten = τ by simp] at e2
      exact ih 6 _ _ _ _ (by omega) g4 (fun z => by omega) e2 a t2 t3
    | 4, _, h =>
      obtain ⟨e, e1, e2⟩ := ob_some h
      obtain ⟨_, -, -, g3, g4, -⟩ := P_ok5 hT e1 h0 hl
      obtain ⟨τ, t1, t2, t3⟩ := ih 5 _ _ _ _ h0 hl (fun z => by omega) e1
      rw [t1, show ([τ] : List (List zN)).flatten = τ by simp] at e2
      exact ih 7 _ _ _ _ (by omega) g4 (fun z => by omega) e2 a t2 t3
    | 5, _, h =>
      simp only at h
      split at h
      · rename_i hc
        rw [← Option.some.inj h]
        exact ⟨_, rfl, cv_leaf ⟨srt_lt (by omega), Or.inl ⟨rfl, hc.1, rfl⟩⟩ cv_nil, Or.inl ⟨by show (10 : Int) ≤ 12; decide, by show (12 : Int) ≤ 15; decide⟩, rfl⟩
      · split at h
        · rename_i hc
          rw [← Option.some.inj h]
          exact ⟨_, rfl, cv_leaf ⟨srt_lt (by omega), Or.inr (Or.inl ⟨rfl, hc, rfl⟩)⟩ cv_nil, Or.inl ⟨by show (10 : Int) ≤ 13; decide, by show (13 : Int) ≤ 15; decide⟩, rfl⟩
        · split at h
          · rename_i hc
            rw [← Option.some.inj h]
            exact ⟨_, rfl, cv_leaf ⟨srt_lt (by omega), Or.inr (Or.inr (Or.inl ⟨rfl, hc, rfl⟩))⟩ cv_nil, Or.inl ⟨by show (10 : Int) ≤ 14; decide, by show (14 : Int) ≤ 15; decide⟩, rfl⟩
          · split at h
            · rw [← Option.some.inj h]
              exact ⟨_, rfl, cv_miss (Or.inl rfl) cv_nil, Or.inr rfl, rfl⟩
            · rename_i hc
              have h40 : sgn T a = 40 := by omega
              have hlt := sgn_lt (T := T) (i := a) (by omega)
              obtain ⟨e, e1, e2⟩ := ob_some h
              obtain ⟨_, -, -, g3, g4, -⟩ := P_ok3 hT e1 (by omega) (by omega)
              obtain ⟨τ, t1, t2, t3⟩ := ih 3 _ _ _ _ (by omega) (by omega) (fun z => by omega) e1
              obtain ⟨k1, k2⟩ := cv_clos (T := T) (sg := 41) (a := e.2) (by omega) (by decide)
              rw [← Option.some.inj e2]
              refine ⟨_, rfl, ?_, Or.inl ⟨by show (10 : Int) ≤ 15; decide, by show (15 : Int) ≤ 15; decide⟩, rfl⟩
              rw [t1]
              exact cv_one (fun z => by cases z) (Or.inr (Or.inr (Or.inr (Or.inr (Or.inr (Or.inr (Or.inr ⟨rfl, _, _, rfl, t3, k2, h40⟩))))))) (cv_app (cv_app (cv_mark hlt (Or.inr h40.symm)) t2) k1)
    | 6, _, h =>
      intro b hb hE
      simp only at h
      split at h
      · rename_i hc
        have hlt := sgn_lt (T := T) (i := a) (by omega)
        obtain ⟨e, e1, e2⟩ := ob_some h
        obtain ⟨_, -, -, g3, g4, -⟩ := P_ok4 hT e1 (by omega) (by omega)
        obtain ⟨τ, t1, t2, t3⟩ := ih 4 _ _ _ _ (by omega) (by omega) (fun z => by omega) e1
        rw [t1, cv_fr1 hb] at e2
        refine ih 6 _ _ _ _ (by omega) g4 (fun z => by omega) e2 b (cv_one (fun z => by cases z) (Or.inr (Or.inr (Or.inr (Or.inr (Or.inr (Or.inr (Or.inl ⟨Or.inl rfl, _, _, a, rfl, hE, t3, Or.inl ⟨rfl, hc⟩⟩))))))) (cv_app (cv_app (ts := [le]) (us := [lfN 16 a 1 (sgn T a)]) hb (cv_mark hlt (Or.inr rfl))) t2)) ⟨Or.inl ⟨by show (10 : Int) ≤ 10; decide, by show (10 : Int) ≤ 15; decide⟩, rfl⟩
      · rw [← Option.some.inj h]
        exact ⟨le, rfl, hb, hE⟩
    | 7, _, h =>
      intro b hb hE
      simp only at h
      split at h
      · rename_i hc
        have hlt := sgn_lt (T := T) (i := a) (by omega)
        obtain ⟨e, e1, e2⟩ := ob_some h
        obtain ⟨_, -, -, g3, g4, -⟩ := P_ok5 hT e1 (by omega) (by omega)
        obtain ⟨τ, t1, t2, t3⟩ := ih 5 _ _ _ _ (by omega) (by omega) (fun z => by omega) e1
        rw [t1, cv_fr1 hb] at e2
        refine ih 7 _ _ _ _ (by omega) g4 (fun z => by omega) e2 b (cv_one (fun z => by cases z) (Or.inr (Or.inr (Or.inr (Or.inr (Or.inr (Or.inr (Or.inl ⟨Or.inr rfl, _, _, a, rfl, hE, t3, Or.inr ⟨rfl, hc⟩⟩))))))) (cv_app (cv_app (ts := [le]) (us := [lfN 16 a 1 (sgn T a)]) hb (cv_mark hlt (Or.inr rfl))) t2)) ⟨Or.inl ⟨by show (10 : Int) ≤ 11; decide, by show (11 : Int) ≤ 15; decide⟩, rfl⟩
      · rw [← Option.some.inj h]
        exact ⟨le, rfl, hb, hE⟩
    | n + 8, _, h =>
      simp only at h
      split at h
      · rename_i hc
        have hlt := sgn_lt (T := T) (i := a) (by omega)
        obtain ⟨e, e1, e2⟩ := ob_some h
        obtain ⟨r2, e3, e4⟩ := ob_some e2
        obtain ⟨_, -, -, g3, g4, -⟩ := P_ok3 hT e1 (by omega) (by omega)
        obtain ⟨τ, t1, t2, t3⟩ := ih 3 _ _ _ _ (by omega) (by omega) (fun z => by omega) e1
        obtain ⟨u1, u2⟩ := ih 8 _ _ _ _ (by omega) g4 (fun z => by omega) e3
        rw [← Option.some.inj e4]
        show cv T a ([lfN 16 a 1 0] ++ e.1 ++ r2.1) r2.2 ∧ ∀ τ ∈ [lfN 16 a 1 0] ++ e.1 ++ r2.1, nG (hdN τ) = 0
        rw [t1]
        refine ⟨cv_app (cv_app (cv_mark hlt (Or.inl rfl)) t2) u1, fun σ hσ => ?_⟩
        rcases List.mem_append.mp hσ with z | z
        · rcases List.mem_append.mp z with z | z
          · rw [List.mem_singleton.mp z]; rfl
          · rw [List.mem_singleton.mp z]; exact t3.2
        · exact u2 σ z
      · rw [← Option.some.inj h]
        exact ⟨cv_nil, fun τ hτ => absurd hτ List.not_mem_nil⟩
end CV
