/-! THE PARSE, as a function: trees are flat lists of nodes in their order. A node: sort, children, size, tokens ahead, tokens, sign -/
abbrev zN : Type := Int × Int × Int × Int × Int × Int
def mkN (so fr up sg : Int) (cs : List (List zN)) : List zN := (so, (cs.length : Int), (cs.flatten.length : Int) + 1, fr, up - fr, sg) :: cs.flatten
def lfN (so at_ ta sg : Int) : List zN := mkN so at_ (at_ + ta) sg []
def hdN (τ : List zN) : zN := τ.getD 0 (0, 0, 0, 0, 0, 0)
def nFr (τ : List zN) : Int := (hdN τ).2.2.2.1
def nUp (τ : List zN) : Int := (hdN τ).2.2.2.1 + (hdN τ).2.2.2.2.1
def sgn (T : List zT) (i : Int) : Int := (tk T i).2.2.2.2
def srt (T : List zT) (i : Int) : Int := (tk T i).1
def clos (T : List zT) (sg at_ : Int) : List zN × Int := if sgn T at_ = sg then (lfN 16 at_ 1 sg, at_ + 1) else (lfN 17 at_ 0 sg, at_)
/-- the greatest power of two that is less -/
def pw2 (n : Nat) : Nat := 2 ^ (Nat.log2 (n - 1))
def balF : Nat → List (List zN) → List zN
  | 0, _ => []
  | f + 1, ts => match ts with
    | [] => []
    | [t] => t
    | t :: u :: r => mkN 1 (nFr t) (nUp ((t :: u :: r).getLastD [])) 0 [balF f ((t :: u :: r).take (pw2 (t :: u :: r).length)), balF f ((t :: u :: r).drop (pw2 (t :: u :: r).length))]
/-- items in a row as one node, or none -/
def bal (ts : List (List zN)) : List (List zN) := match ts with
  | [] => []
  | t :: r => [balF (t :: r).length (t :: r)]
/-- modes: 0 items (left: within a block), 1 item, 2 body, 3 expression, 4 term, 5 part, 6 what follows an expression's left side, 7 a term's, 8 a list's -/
def P (T : List zT) : Nat → Nat → Int → List zN → Int → Option (List (List zN) × Int)
  | 0, _, _, _, _ => none
  | f + 1, mo, ne, le, at_ => match mo with
    | 0 => if ¬ at_ < (T.length : Int) ∨ (le ≠ [] ∧ sgn T at_ = 125) then some ([], at_) else
      (P T f 1 ne [] at_).bind fun r => (P T f 0 ne le r.2).bind fun r2 => some (r.1 ++ r2.1, r2.2)
    | 1 => if (sgn T at_ = 1 ∨ sgn T at_ = 3) ∧ ne < 10 then
        (P T f 3 (ne + 1) [] (at_ + 1)).bind fun e => (P T f 2 (ne + 1) [] e.2).bind fun b =>
          if sgn T at_ = 1 ∧ sgn T b.2 = 2 then (P T f 2 (ne + 1) [] (b.2 + 1)).bind fun b2 => some ([mkN 6 at_ b2.2 0 ([lfN 16 at_ 1 0] ++ e.1 ++ b.1 ++ [lfN 16 b.2 1 0] ++ b2.1)], b2.2)
          else some ([mkN (if sgn T at_ = 1 then 6 else 7) at_ b.2 0 ([lfN 16 at_ 1 0] ++ e.1 ++ b.1)], b.2)
      else if sgn T at_ = 123 ∧ ne < 10 then
        (P T f 0 (ne + 1) [(0, 0, 0, 0, 0, 0)] (at_ + 1)).bind fun is => some ([mkN 5 at_ (clos T 125 is.2).2 0 ([lfN 16 at_ 1 123] ++ bal is.1 ++ [(clos T 125 is.2).1])], (clos T 125 is.2).2)
      else if sgn T at_ = 59 then some ([lfN 8 at_ 1 0], at_ + 1)
      else if (srt T at_ = 0 ∧ sgn T at_ = 0) ∧ sgn T (at_ + 1) = 61 then
        (P T f 3 ne [] (at_ + 2)).bind fun e => some ([mkN 2 at_ (clos T 59 e.2).2 0 ([lfN 12 at_ 1 0, lfN 16 (at_ + 1) 1 0] ++ e.1 ++ [(clos T 59 e.2).1])], (clos T 59 e.2).2)
      else if (srt T at_ = 0 ∧ sgn T at_ = 0) ∧ sgn T (at_ + 1) = 40 then
        (if sgn T (at_ + 2) = 41 then some ([], at_ + 2) else (P T f 3 ne [] (at_ + 2)).bind fun e => (P T f 8 ne [] e.2).bind fun r => some ([mkN 4 (at_ + 2) r.2 0 (e.1 ++ r.1)], r.2)).bind fun q =>
          some ([mkN 3 at_ (clos T 59 (clos T 41 q.2).2).2 0 ([lfN 12 at_ 1 0, lfN 16 (at_ + 1) 1 40] ++ q.1 ++ [(clos T 41 q.2).1, (clos T 59 (clos T 41 q.2).2).1])], (clos T 59 (clos T 41 q.2).2).2)
      else some ([lfN 9 at_ 1 0], at_ + 1)
    | 2 => if (srt T at_ = 0 ∧ sgn T at_ ≠ 2) ∨ sgn T at_ = 123 ∨ sgn T at_ = 59 then P T f 1 ne [] at_ else some ([lfN 17 at_ 0 0], at_)
    | 3 => (P T f 4 ne [] at_).bind fun l => P T f 6 ne l.1.flatten l.2
    | 4 => (P T f 5 ne [] at_).bind fun l => P T f 7 ne l.1.flatten l.2
    | 5 => if srt T at_ = 0 ∧ sgn T at_ = 0 then some ([lfN 12 at_ 1 0], at_ + 1)
      else if srt T at_ = 1 then some ([lfN 13 at_ 1 0], at_ + 1)
      else if srt T at_ = 2 then some ([lfN 14 at_ 1 0], at_ + 1)
      else if ¬ sgn T at_ = 40 ∨ 10 ≤ ne then some ([lfN 17 at_ 0 0], at_)
      else (P T f 3 (ne + 1) [] (at_ + 1)).bind fun e => some ([mkN 15 at_ (clos T 41 e.2).2 0 ([lfN 16 at_ 1 40] ++ e.1 ++ [(clos T 41 e.2).1])], (clos T 41 e.2).2)
    | 6 => if sgn T at_ = 43 ∨ sgn T at_ = 45 then (P T f 4 ne [] (at_ + 1)).bind fun r => P T f 6 ne (mkN 10 (nFr le) r.2 0 ([le, lfN 16 at_ 1 (sgn T at_)] ++ r.1)) r.2 else some ([le], at_)
    | 7 => if sgn T at_ = 42 ∨ sgn T at_ = 47 then (P T f 5 ne [] (at_ + 1)).bind fun r => P T f 7 ne (mkN 11 (nFr le) r.2 0 ([le, lfN 16 at_ 1 (sgn T at_)] ++ r.1)) r.2 else some ([le], at_)
    | _ => if sgn T at_ = 44 then (P T f 3 ne [] (at_ + 1)).bind fun e => (P T f 8 ne [] e.2).bind fun r => some ([lfN 16 at_ 1 0] ++ e.1 ++ r.1, r.2) else some ([], at_)
theorem sgn_lt {T : List zT} {i : Int} (h : ¬ sgn T i = 0) : 0 ≤ i ∧ i < (T.length : Int) := by
  by_cases hi : 0 ≤ i ∧ i < (T.length : Int)
  · exact hi
  · exact absurd (by unfold sgn; rw [tk_out hi]; rfl) h
theorem srt_lt {T : List zT} {i : Int} (h : ¬ srt T i = -1) : 0 ≤ i ∧ i < (T.length : Int) := by
  by_cases hi : 0 ≤ i ∧ i < (T.length : Int)
  · exact hi
  · exact absurd (by unfold srt; rw [tk_out hi]; rfl) h
theorem ob_some {α β : Type} {a : Option α} {g : α → Option β} {r : β} (h : a.bind g = some r) : ∃ x, a = some x ∧ g x = some r := by
  cases a with
  | none => cases h
  | some x => exact ⟨x, rfl, h⟩
theorem ob_in {α β : Type} {a b : Option α} {g k : α → Option β} {r : β} (h : a.bind g = some r) (h1 : ∀ x, a = some x → b = some x) (h2 : ∀ x, g x = some r → k x = some r) : b.bind k = some r := by
  obtain ⟨x, e1, e2⟩ := ob_some h
  rw [h1 x e1]
  exact h2 x e2
/-- more fuel changes nothing -/
theorem P_mono (T : List zT) : ∀ (f mo : Nat) (ne : Int) (le : List zN) (at_ : Int) (r : List (List zN) × Int), P T f mo ne le at_ = some r → P T (f + 1) mo ne le at_ = some r
  | 0, _, _, _, _, _, h => by simp [P] at h
  | f + 1, mo, ne, le, at_, r, h => by
    have ih := P_mono T f
    unfold P at h ⊢
    match mo, h with
    | 0, h =>
      simp only at h ⊢
      split at h
      · rename_i hc; rw [if_pos hc]; exact h
      · rename_i hc
        rw [if_neg hc]
        exact ob_in h (fun x e => ih _ _ _ _ _ e) (fun x e => ob_in e (fun y e2 => ih _ _ _ _ _ e2) (fun y e2 => e2))
    | 1, h =>
      simp only at h ⊢
      split at h
      · rename_i hc
        rw [if_pos hc]
        refine ob_in h (fun x e => ih _ _ _ _ _ e) (fun x e => ob_in e (fun y e2 => ih _ _ _ _ _ e2) (fun y e2 => ?_))
        split at e2
        · rename_i h2
          rw [if_pos h2]
          exact ob_in e2 (fun z e3 => ih _ _ _ _ _ e3) (fun z e3 => e3)
        · rename_i h2
          rw [if_neg h2]
          exact e2
      · rename_i hc
        rw [if_neg hc]
        split at h
        · rename_i h2
          rw [if_pos h2]
          exact ob_in h (fun x e => ih _ _ _ _ _ e) (fun x e => e)
        · rename_i h2
          rw [if_neg h2]
          split at h
          · rename_i h3; rw [if_pos h3]; exact h
          · rename_i h3
            rw [if_neg h3]
            split at h
            · rename_i h4
              rw [if_pos h4]
              exact ob_in h (fun x e => ih _ _ _ _ _ e) (fun x e => e)
            · rename_i h4
              rw [if_neg h4]
              split at h
              · rename_i h5
                rw [if_pos h5]
                refine ob_in h (fun x e => ?_) (fun x e => e)
                split at e
                · rename_i h6; rw [if_pos h6]; exact e
                · rename_i h6
                  rw [if_neg h6]
                  exact ob_in e (fun y e2 => ih _ _ _ _ _ e2) (fun y e2 => ob_in e2 (fun z e3 => ih _ _ _ _ _ e3) (fun z e3 => e3))
              · rename_i h5; rw [if_neg h5]; exact h
    | 2, h =>
      simp only at h ⊢
      split at h
      · rename_i hc; rw [if_pos hc]; exact ih _ _ _ _ _ h
      · rename_i hc; rw [if_neg hc]; exact h
    | 3, h => exact ob_in h (fun x e => ih _ _ _ _ _ e) (fun x e => ih _ _ _ _ _ e)
    | 4, h => exact ob_in h (fun x e => ih _ _ _ _ _ e) (fun x e => ih _ _ _ _ _ e)
    | 5, h =>
      simp only at h ⊢
      split at h
      · rename_i hc; rw [if_pos hc]; exact h
      · rename_i hc
        rw [if_neg hc]
        split at h
        · rename_i h2; rw [if_pos h2]; exact h
        · rename_i h2
          rw [if_neg h2]
          split at h
          · rename_i h3; rw [if_pos h3]; exact h
          · rename_i h3
            rw [if_neg h3]
            split at h
            · rename_i h4; rw [if_pos h4]; exact h
            · rename_i h4
              rw [if_neg h4]
              exact ob_in h (fun x e => ih _ _ _ _ _ e) (fun x e => e)
    | 6, h =>
      simp only at h ⊢
      split at h
      · rename_i hc; rw [if_pos hc]; exact ob_in h (fun x e => ih _ _ _ _ _ e) (fun x e => ih _ _ _ _ _ e)
      · rename_i hc; rw [if_neg hc]; exact h
    | 7, h =>
      simp only at h ⊢
      split at h
      · rename_i hc; rw [if_pos hc]; exact ob_in h (fun x e => ih _ _ _ _ _ e) (fun x e => ih _ _ _ _ _ e)
      · rename_i hc; rw [if_neg hc]; exact h
    | n + 8, h =>
      simp only at h ⊢
      split at h
      · rename_i hc; rw [if_pos hc]; exact ob_in h (fun x e => ih _ _ _ _ _ e) (fun x e => ob_in e (fun y e2 => ih _ _ _ _ _ e2) (fun y e2 => e2))
      · rename_i hc; rw [if_neg hc]; exact h
theorem P_le (T : List zT) {f g mo : Nat} {ne : Int} {le : List zN} {at_ : Int} {r : List (List zN) × Int} (h : P T f mo ne le at_ = some r) (hg : f ≤ g) : P T g mo ne le at_ = some r := by
  obtain ⟨k, rfl⟩ := Nat.exists_eq_add_of_le hg
  induction k with
  | zero => exact h
  | succ k ih => exact P_mono T _ _ _ _ _ _ (ih (Nat.le_add_right _ _))
