/-! PIECES of a text that are replaced: mend, rename -/
abbrev zPc : Type := Int × Int × List Int
def stp (t : List Int) (x : List Int × Int) (p : zPc) : List Int × Int := (x.1 ++ sub t x.2 p.1 ++ p.2.2, p.2.1)
def mgD (t : List Int) (P : List zPc) : List Int × Int := P.foldl (stp t) ([], 0)
def mgF (t : List Int) (P : List zPc) : List Int × Int := match P with
  | [] => ([], 0)
  | p :: R => R.foldl (stp t) (p.2.2, p.2.1)
def mgA (P : List zPc) : Int := match P with
  | [] => -1
  | p :: _ => p.1
theorem stp_pre (t X : List Int) : ∀ (R : List zPc) (l : List Int) (a : Int), R.foldl (stp t) (X ++ l, a) = (X ++ (R.foldl (stp t) (l, a)).1, (R.foldl (stp t) (l, a)).2)
  | [], l, a => rfl
  | p :: R, l, a => by
    rw [List.foldl_cons, List.foldl_cons]
    have := stp_pre t X R (l ++ sub t a p.1 ++ p.2.2) p.2.1
    rw [show stp t (X ++ l, a) p = (X ++ (l ++ sub t a p.1 ++ p.2.2), p.2.1) by unfold stp; simp, this]
    rfl
theorem mgD_F {t : List Int} {P : List zPc} (h : P ≠ []) : mgD t P = (t.take (mgA P).toNat ++ (mgF t P).1, (mgF t P).2) := by
  cases P with
  | nil => exact absurd rfl h
  | cons p R =>
    show R.foldl (stp t) (stp t ([], 0) p) = _
    rw [show stp t ([], 0) p = (t.take p.1.toNat ++ p.2.2, p.2.1) by unfold stp; rw [List.nil_append, sub_0], stp_pre]
    rfl
theorem mgD_snoc {t : List Int} {P : List zPc} {q : zPc} : mgD t (P ++ [q]) = stp t (mgD t P) q := by unfold mgD; rw [List.foldl_append]; rfl
theorem mgF_snoc {t : List Int} {P : List zPc} {q : zPc} : mgF t (P ++ [q]) = if P = [] then (q.2.2, q.2.1) else stp t (mgF t P) q := by
  cases P with
  | nil => rfl
  | cons p R =>
    rw [if_neg (List.cons_ne_nil _ _)]
    show (R ++ [q]).foldl (stp t) _ = _
    rw [List.foldl_append]
    rfl
theorem mgA_snoc {P : List zPc} {q : zPc} : mgA (P ++ [q]) = if P = [] then q.1 else mgA P := by
  cases P with
  | nil => rfl
  | cons p R => rw [if_neg (List.cons_ne_nil _ _)]; rfl
/-- the text in which pieces are replaced -/
def mgT (t : List Int) (P : List zPc) : List Int := (mgD t P).1 ++ sub t (mgD t P).2 (t.length : Int)
theorem mgT_ed {t : List Int} {P : List zPc} (h : P ≠ []) : mgT t P = edT t (mgF t P).1 (mgA P) (mgF t P).2 := by
  unfold mgT edT
  rw [mgD_F h, sub_end]
/-- pieces in order -/
def okP (u : Int) : Int → List zPc → Prop
  | x, [] => x ≤ u
  | x, p :: R => x ≤ p.1 ∧ p.1 ≤ p.2.1 ∧ okP u p.2.1 R
theorem okP_le {u : Int} : ∀ (P : List zPc) (x : Int), okP u x P → x ≤ u
  | [], _, h => h
  | p :: R, x, h => by have := okP_le R _ h.2.2; have h1 := h.1; have h2 := h.2.1; omega
def lnP : List zPc → Int
  | [] => 0
  | p :: R => (p.2.2.length : Int) - (p.2.1 - p.1) + lnP R
theorem lnP_snoc {q : zPc} : ∀ P : List zPc, lnP (P ++ [q]) = lnP P + ((q.2.2.length : Int) - (q.2.1 - q.1))
  | [] => by show _ + (0 : Int) = (0 : Int) + _; omega
  | p :: R => by show _ + lnP (R ++ [q]) = _; rw [lnP_snoc R]; show _ = _ + lnP R + _; omega
theorem okP_snoc {u : Int} {q : zPc} : ∀ (P : List zPc) (x : Int), okP u x (P ++ [q]) → okP u x P
  | [], x, h => by have h1 := h.1; have h2 := h.2.1; have h3 : q.2.1 ≤ u := h.2.2; show x ≤ u; omega
  | p :: R, x, h => ⟨h.1, h.2.1, okP_snoc R _ h.2.2⟩
theorem stp_len {t : List Int} : ∀ (R : List zPc) (l : List Int) (a : Int), 0 ≤ a → okP (t.length : Int) a R → ((R.foldl (stp t) (l, a)).1.length : Int) - (R.foldl (stp t) (l, a)).2 = (l.length : Int) - a + lnP R ∧ a ≤ (R.foldl (stp t) (l, a)).2 ∧ (R.foldl (stp t) (l, a)).2 ≤ (t.length : Int)
  | [], l, a, h0, h => ⟨by show (l.length : Int) - a = (l.length : Int) - a + 0; omega, Int.le_refl _, h⟩
  | p :: R, l, a, h0, h => by
    obtain ⟨h1, h2, h3⟩ := h
    have hu := okP_le _ _ h3
    have := stp_len R (l ++ sub t a p.1 ++ p.2.2) p.2.1 (by omega) h3
    have hs := sub_len (t := t) (a := a) (b := p.1) ⟨h0, h1, by omega⟩
    rw [List.foldl_cons, show stp t (l, a) p = (l ++ sub t a p.1 ++ p.2.2, p.2.1) from rfl]
    show _ = (l.length : Int) - a + ((p.2.2.length : Int) - (p.2.1 - p.1) + lnP R) ∧ _
    rw [List.length_append, List.length_append] at this
    omega
theorem mgT_len {t : List Int} {P : List zPc} (h : okP (t.length : Int) 0 P) : ((mgT t P).length : Int) = (t.length : Int) + lnP P := by
  have := stp_len P [] 0 (Int.le_refl _) h
  unfold mgT mgD
  rw [List.length_append]
  have hs := sub_len (t := t) (a := (P.foldl (stp t) ([], 0)).2) (b := (t.length : Int)) ⟨this.2.1, this.2.2, Int.le_refl _⟩
  have : (([] : List Int).length : Int) = 0 := rfl
  omega
theorem mgA_rng {t : List Int} {P : List zPc} (hne : P ≠ []) (h : okP (t.length : Int) 0 P) : 0 ≤ mgA P ∧ mgA P ≤ (mgF t P).2 ∧ (mgF t P).2 ≤ (t.length : Int) := by
  cases P with
  | nil => exact absurd rfl hne
  | cons p R =>
    obtain ⟨h1, h2, h3⟩ := h
    have := stp_len R p.2.2 p.2.1 (by omega) h3
    show 0 ≤ p.1 ∧ p.1 ≤ (R.foldl (stp t) (p.2.2, p.2.1)).2 ∧ _
    exact ⟨h1, by omega, this.2.2⟩
theorem mgD_rng {t : List Int} {P : List zPc} (h : okP (t.length : Int) 0 P) : 0 ≤ (mgD t P).2 ∧ (mgD t P).2 ≤ (t.length : Int) := by
  have := stp_len P [] 0 (Int.le_refl _) h
  exact ⟨this.2.1, this.2.2⟩
/-- fragments grow -/
theorem stp_grow {t : List Int} : ∀ (R : List zPc) (x : List Int × Int), x.1.length ≤ (R.foldl (stp t) x).1.length
  | [], x => Nat.le_refl _
  | p :: R, x => by
    rw [List.foldl_cons]
    refine Nat.le_trans ?_ (stp_grow R _)
    unfold stp
    rw [List.length_append, List.length_append]
    omega
theorem mgF_grow {t : List Int} {P : List zPc} (R : List zPc) : (mgF t P).1.length ≤ (mgF t (P ++ R)).1.length := by
  cases P with
  | nil => exact Nat.zero_le _
  | cons p P =>
    show (P.foldl (stp t) _).1.length ≤ ((P ++ R).foldl (stp t) _).1.length
    rw [List.foldl_append]
    exact stp_grow R _
theorem mg_by {t : List Int} (ht : z_by t) : ∀ (R : List zPc), (∀ p ∈ R, z_by p.2.2) → ∀ (x : List Int × Int), z_by x.1 → z_by (R.foldl (stp t) x).1
  | [], _, x, h => h
  | p :: R, hp, x, h => by
    rw [List.foldl_cons]
    exact mg_by ht R (fun q hq => hp q (List.mem_cons_of_mem _ hq)) _ (z_by_app (z_by_app h (z_by_sub ht)) (hp p (List.mem_cons_self)))
theorem mgT_by {t : List Int} {P : List zPc} (ht : z_by t) (h : ∀ p ∈ P, z_by p.2.2) : z_by (mgT t P) := z_by_app (mg_by ht P h _ (fun x hx => absurd hx List.not_mem_nil)) (z_by_sub ht)
/-- what a filter keeps of the first numbers -/
def flt (p : Nat → Bool) (n : Nat) : List Nat := (List.range n).filter p
theorem flt_0 (p : Nat → Bool) : flt p 0 = [] := rfl
theorem flt_s (p : Nat → Bool) (n : Nat) : flt p (n + 1) = flt p n ++ (if p n = true then [n] else []) := by
  unfold flt
  rw [List.range_succ, List.filter_append]
  congr 1
  by_cases c : p n = true
  · rw [if_pos c, List.filter_cons, if_pos c]; rfl
  · rw [if_neg c, List.filter_cons, if_neg c]; rfl
theorem flt_y {p : Nat → Bool} {n : Nat} (h : p n = true) : flt p (n + 1) = flt p n ++ [n] := by rw [flt_s, if_pos h]
theorem flt_n {p : Nat → Bool} {n : Nat} (h : ¬ p n = true) : flt p (n + 1) = flt p n := by rw [flt_s, if_neg h, List.append_nil]
theorem flt_mem {p : Nat → Bool} {n i : Nat} : i ∈ flt p n ↔ i < n ∧ p i = true := by unfold flt; rw [List.mem_filter, List.mem_range]
theorem flt_lt {p : Nat → Bool} {n : Nat} : (flt p n).Pairwise (· < ·) := List.Pairwise.filter p List.pairwise_lt_range
theorem flt_pre (p : Nat → Bool) (n : Nat) : ∀ k, ∃ R, flt p (n + k) = flt p n ++ R
  | 0 => ⟨[], by rw [List.append_nil]; rfl⟩
  | k + 1 => by
    obtain ⟨R, h⟩ := flt_pre p n k
    exact ⟨R ++ (if p (n + k) = true then [n + k] else []), by rw [← Nat.add_assoc, flt_s, h, List.append_assoc]⟩
theorem flt_len (p : Nat → Bool) : ∀ n, (flt p n).length ≤ n
  | 0 => Nat.le_refl _
  | n + 1 => by have := flt_len p n; rw [flt_s, List.length_append]; split <;> simp <;> omega
def hdI (l : List Nat) : Int := match l with
  | [] => -1
  | x :: _ => (x : Int)
def ltI (l : List Nat) : Int := l.foldl (fun (_ : Int) (x : Nat) => (x : Int)) (-1)
theorem hdI_snoc {l : List Nat} {x : Nat} : hdI (l ++ [x]) = if l = [] then (x : Int) else hdI l := by
  cases l with
  | nil => rfl
  | cons p R => rw [if_neg (List.cons_ne_nil _ _)]; rfl
theorem ltI_snoc {l : List Nat} {x : Nat} : ltI (l ++ [x]) = (x : Int) := by unfold ltI; rw [List.foldl_append]; rfl
theorem hdI_nn {l : List Nat} (h : l ≠ []) : 0 ≤ hdI l ∧ hdI l.tail ≥ -1 := by
  cases l with
  | nil => exact absurd rfl h
  | cons p R =>
    refine ⟨by show (0 : Int) ≤ (p : Int); omega, ?_⟩
    show hdI R ≥ -1
    cases R with
    | nil => show (-1 : Int) ≥ -1; omega
    | cons q R => show (q : Int) ≥ -1; omega
/-- numbers in order, with pieces in order -/
theorem okP_map {u : Int} {g : Nat → zPc} : ∀ (l : List Nat) (x : Int), l.Pairwise (fun i j => (g i).2.1 ≤ (g j).1) → (∀ i ∈ l, x ≤ (g i).1 ∧ (g i).1 ≤ (g i).2.1 ∧ (g i).2.1 ≤ u) → x ≤ u → okP u x (l.map g)
  | [], x, _, _, h => h
  | i :: l, x, hp, hm, h => by
    have h1 := hm i List.mem_cons_self
    have h2 := List.pairwise_cons.mp hp
    exact ⟨h1.1, h1.2.1, okP_map l _ h2.2 (fun j hj => ⟨h2.1 j hj, (hm j (List.mem_cons_of_mem _ hj)).2⟩) h1.2.2⟩
theorem mgA_map {g : Nat → zPc} {l : List Nat} (h : l ≠ []) : mgA (l.map g) = (g (hdI l).toNat).1 := by
  cases l with
  | nil => exact absurd rfl h
  | cons p R => show (g p).1 = (g ((p : Int)).toNat).1; rw [Int.toNat_natCast]
theorem map_nil {g : Nat → zPc} {l : List Nat} : l.map g = [] ↔ l = [] := List.map_eq_nil_iff
