/-! THE PARSE ENDS, and how many nodes there are -/
def istart (T : List zT) (i : Int) : Prop := (srt T i = 0 ∧ sgn T i ≠ 2) ∨ sgn T i = 123 ∨ sgn T i = 59
theorem mkN_len {so fr up sg : Int} {cs : List (List zN)} : (mkN so fr up sg cs).length = cs.flatten.length + 1 := rfl
theorem mkN_fr {so fr up sg : Int} {cs : List (List zN)} : nFr (mkN so fr up sg cs) = fr := rfl
theorem mkN_up {so fr up sg : Int} {cs : List (List zN)} : nUp (mkN so fr up sg cs) = up := by
  show fr + (up - fr) = up
  omega
theorem mkN_ne {so fr up sg : Int} {cs : List (List zN)} : mkN so fr up sg cs ≠ [] := fun h => by cases h
theorem lfN_len {so a b c : Int} : (lfN so a b c).length = 1 := rfl
theorem clos_ok {T : List zT} {sg at_ : Int} (h0 : 0 ≤ at_ ∧ at_ ≤ (T.length : Int)) (hs : sg ≠ 0) : at_ ≤ (clos T sg at_).2 ∧ (clos T sg at_).2 ≤ (T.length : Int) ∧ (clos T sg at_).1.length = 1 := by
  unfold clos
  split
  · rename_i h
    have := sgn_lt (T := T) (i := at_) (by omega)
    exact ⟨by show at_ ≤ at_ + 1; omega, by show at_ + 1 ≤ _; omega, rfl⟩
  · exact ⟨Int.le_refl _, h0.2, rfl⟩
def okE (T : List zT) (at_ : Int) (r : List (List zN) × Int) : Prop := ∃ τ, r.1 = [τ] ∧ τ ≠ [] ∧ at_ ≤ r.2 ∧ r.2 ≤ (T.length : Int) ∧ nFr τ = at_ ∧ nUp τ = r.2 ∧ (τ.length : Int) ≤ 3 * (r.2 - at_) + 1
def okL (T : List zT) (le : List zN) (at_ : Int) (r : List (List zN) × Int) : Prop := ∃ τ, r.1 = [τ] ∧ τ ≠ [] ∧ at_ ≤ r.2 ∧ r.2 ≤ (T.length : Int) ∧ nFr τ = nFr le ∧ nUp τ = r.2 ∧ (τ.length : Int) ≤ (le.length : Int) + 3 * (r.2 - at_)
def okI (T : List zT) (at_ : Int) (r : List (List zN) × Int) : Prop := ∃ τ, r.1 = [τ] ∧ τ ≠ [] ∧ at_ < r.2 ∧ r.2 ≤ (T.length : Int) ∧ nFr τ = at_ ∧ nUp τ = r.2 ∧ ((τ.length : Int) + 1 ≤ 4 * (r.2 - at_) ∨ ((τ.length : Int) ≤ 4 * (r.2 - at_) ∧ ¬ istart T r.2)) ∧ (¬ istart T at_ → r.2 = at_ + 1 ∧ τ.length = 1)
def okB (T : List zT) (at_ : Int) (r : List (List zN) × Int) : Prop := (istart T at_ ∧ okI T at_ r) ∨ (¬ istart T at_ ∧ r = ([lfN 17 at_ 0 0], at_))
def okC (T : List zT) (at_ : Int) (r : List (List zN) × Int) : Prop := at_ ≤ r.2 ∧ r.2 ≤ (T.length : Int) ∧ (r.1.flatten.length : Int) ≤ 3 * (r.2 - at_)
/-- items that follow one another -/
def runI : Int → List (List zN) → Int → Prop
  | a, [], b => a = b
  | a, τ :: r, b => τ ≠ [] ∧ nFr τ = a ∧ runI (nUp τ) r b
def okS (T : List zT) (at_ : Int) (r : List (List zN) × Int) : Prop := at_ ≤ r.2 ∧ r.2 ≤ (T.length : Int) ∧ (r.1.flatten.length : Int) + (r.1.length : Int) ≤ 4 * (r.2 - at_) + 1 ∧ (¬ istart T at_ → (r.1.flatten.length : Int) + (r.1.length : Int) ≤ 4 * (r.2 - at_)) ∧ runI at_ r.1 r.2 ∧ ((r.1.length : Int) ≤ r.2 - at_)
/-- how many nodes the items make when they are balanced -/
theorem balF_len : ∀ (f : Nat) (ts : List (List zN)), ts ≠ [] → ts.length ≤ f → (balF f ts).length + 1 = ts.flatten.length + ts.length
  | 0, ts, h, hl => absurd (List.length_eq_zero_iff.mp (by omega)) h
  | f + 1, [], h, _ => absurd rfl h
  | f + 1, [t], _, _ => by simp [balF]
  | f + 1, t :: u :: r, _, hl => by
    have hp1 : 0 < pw2 (t :: u :: r).length := Nat.pos_of_ne_zero (by unfold pw2; exact Nat.ne_of_gt (Nat.two_pow_pos _))
    have hp2 : pw2 (t :: u :: r).length < (t :: u :: r).length := by
      unfold pw2
      have : 2 ^ Nat.log2 ((t :: u :: r).length - 1) ≤ (t :: u :: r).length - 1 := Nat.log2_self_le (by simp)
      simp only [List.length_cons] at *
      omega
    generalize hp : pw2 (t :: u :: r).length = p at hp1 hp2
    have e : balF (f + 1) (t :: u :: r) = mkN 1 (nFr t) (nUp ((t :: u :: r).getLastD [])) 0 [balF f ((t :: u :: r).take p), balF f ((t :: u :: r).drop p)] := by
      rw [← hp]
      rfl
    have l1 : ((t :: u :: r).take p).length = p := by rw [List.length_take]; omega
    have l2 : ((t :: u :: r).drop p).length = (t :: u :: r).length - p := List.length_drop
    have i1 := balF_len f ((t :: u :: r).take p) (fun z => by rw [z] at l1; simp at l1; omega) (by omega)
    have i2 := balF_len f ((t :: u :: r).drop p) (fun z => by rw [z] at l2; simp at l2; simp at hp2; omega) (by omega)
    have fl : (t :: u :: r).flatten.length = ((t :: u :: r).take p).flatten.length + ((t :: u :: r).drop p).flatten.length := by
      rw [← List.length_append, ← List.flatten_append, List.take_append_drop]
    rw [e, mkN_len, show ([balF f ((t :: u :: r).take p), balF f ((t :: u :: r).drop p)] : List (List zN)).flatten = balF f ((t :: u :: r).take p) ++ balF f ((t :: u :: r).drop p) by simp, List.length_append]
    omega
theorem bal_len (ts : List (List zN)) : ((bal ts).flatten.length : Int) ≤ (ts.flatten.length : Int) + (ts.length : Int) := by
  unfold bal
  split
  · simp
  · rename_i t r
    have := balF_len (t :: r).length (t :: r) (fun h => by cases h) (Nat.le_refl _)
    rw [show ([balF (t :: r).length (t :: r)] : List (List zN)).flatten = balF (t :: r).length (t :: r) by simp]
    omega
theorem bal_len2 (ts : List (List zN)) (h : ts ≠ []) : ((bal ts).flatten.length : Int) + 1 = (ts.flatten.length : Int) + (ts.length : Int) := by
  unfold bal
  split
  · exact absurd rfl h
  · rename_i t r
    have := balF_len (t :: r).length (t :: r) (fun h => by cases h) (Nat.le_refl _)
    rw [show ([balF (t :: r).length (t :: r)] : List (List zN)).flatten = balF (t :: r).length (t :: r) by simp]
    omega
/-- there is an outcome with enough fuel -/
def Px (T : List zT) (mo : Nat) (ne : Int) (le : List zN) (at_ : Int) (ok : List (List zN) × Int → Prop) : Prop := ∃ (f : Nat) (r : List (List zN) × Int), P T f mo ne le at_ = some r ∧ ok r
def PxA (T : List zT) (n : Nat) : Prop := ∀ at_ : Int, 0 ≤ at_ → at_ ≤ (T.length : Int) → ((T.length : Int) - at_).toNat < n →
  (∀ ne, Px T 3 ne [] at_ (okE T at_)) ∧ (∀ ne, Px T 4 ne [] at_ (okE T at_)) ∧ (∀ ne, Px T 5 ne [] at_ (okE T at_)) ∧ (∀ ne le, le ≠ [] → nUp le = at_ → Px T 6 ne le at_ (okL T le at_)) ∧ (∀ ne le, le ≠ [] → nUp le = at_ → Px T 7 ne le at_ (okL T le at_)) ∧ (∀ ne, Px T 8 ne [] at_ (okC T at_)) ∧
  (∀ ne, at_ < (T.length : Int) → Px T 1 ne [] at_ (okI T at_)) ∧ (∀ ne, Px T 2 ne [] at_ (okB T at_)) ∧ (∀ ne le, Px T 0 ne le at_ (okS T at_))
theorem px_bind {T : List zT} {mo : Nat} {ne : Int} {le : List zN} {at_ : Int} {ok : List (List zN) × Int → Prop} {α : Type} {g : Nat → List (List zN) × Int → Option α} {okr : α → Prop} (h : Px T mo ne le at_ ok) (hm : ∀ f k r x, g f r = some x → f ≤ k → g k r = some x) (h2 : ∀ r, ok r → ∃ f x, g f r = some x ∧ okr x) : ∃ f x, (P T f mo ne le at_).bind (g f) = some x ∧ okr x := by
  obtain ⟨f, r, e, hr⟩ := h
  obtain ⟨f2, x, e2, hx⟩ := h2 r hr
  refine ⟨max f f2, x, ?_, hx⟩
  rw [P_le T e (Nat.le_max_left _ _)]
  exact hm f2 _ r x e2 (Nat.le_max_right _ _)
