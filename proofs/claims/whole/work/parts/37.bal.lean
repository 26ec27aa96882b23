/-! PAIRS, pairs of pairs and so on are what bal says -/
def prs : List (List zN) → List (List zN)
  | a :: b :: r => mkN 1 (nFr a) (nUp b) 0 [a, b] :: prs r
  | l => l
theorem pw2_pos (n : Nat) : 0 < pw2 n := Nat.two_pow_pos _
theorem pw2_lt {n : Nat} (h : 2 ≤ n) : pw2 n < n := by
  unfold pw2
  have : 2 ^ Nat.log2 (n - 1) ≤ n - 1 := Nat.log2_self_le (by omega)
  omega
theorem pw2_two {n : Nat} (h : 3 ≤ n) : pw2 n = 2 * pw2 ((n + 1) / 2) := by
  unfold pw2
  have e : (n + 1) / 2 - 1 = (n - 1) / 2 := by omega
  rw [e, Nat.log2_def (n - 1), if_pos (by omega), Nat.pow_succ, Nat.mul_comm]
theorem balF_two (f : Nat) (ts : List (List zN)) (h : 2 ≤ ts.length) : balF (f + 1) ts = mkN 1 (nFr (ts.headD [])) (nUp (ts.getLastD [])) 0 [balF f (ts.take (pw2 ts.length)), balF f (ts.drop (pw2 ts.length))] := by
  match ts, h with
  | t :: u :: r, _ => rfl
theorem balF_one (f : Nat) (t : List zN) : balF (f + 1) [t] = t := rfl
theorem balF_fuel : ∀ (f g : Nat) (ts : List (List zN)), ts.length ≤ f → ts.length ≤ g → ts ≠ [] → balF f ts = balF g ts
  | 0, _, ts, h, _, hn => absurd (List.length_eq_zero_iff.mp (by omega)) hn
  | f + 1, 0, ts, _, h, hn => absurd (List.length_eq_zero_iff.mp (by omega)) hn
  | f + 1, g + 1, ts, h1, h2, hn => by
    match ts, hn with
    | [t], _ => rfl
    | t :: u :: r, _ =>
      have l2 : 2 ≤ (t :: u :: r).length := by simp
      generalize t :: u :: r = ts at h1 h2 l2
      have p1 := pw2_pos ts.length
      have p2 := pw2_lt l2
      rw [balF_two f ts l2, balF_two g ts l2]
      have lt : (ts.take (pw2 ts.length)).length = pw2 ts.length := by rw [List.length_take]; omega
      have ld : (ts.drop (pw2 ts.length)).length = ts.length - pw2 ts.length := List.length_drop
      rw [balF_fuel f g _ (by omega) (by omega) (fun z => by rw [z] at lt; simp at lt; omega), balF_fuel f g _ (by omega) (by omega) (fun z => by rw [z] at ld; simp at ld; omega)]
theorem prs_len : ∀ (ts : List (List zN)), (prs ts).length = (ts.length + 1) / 2
  | [] => by simp [prs]
  | [_] => by simp [prs]
  | _ :: _ :: r => by
    show (prs r).length + 1 = (r.length + 1 + 1 + 1) / 2
    rw [prs_len r]
    omega
theorem prs_flat : ∀ (ts : List (List zN)), (prs ts).flatten.length = ts.flatten.length + ts.length / 2
  | [] => rfl
  | [t] => by simp [prs]
  | a :: b :: r => by
    show (mkN 1 (nFr a) (nUp b) 0 [a, b] ++ (prs r).flatten).length = (a ++ (b ++ r.flatten)).length + (r.length + 1 + 1) / 2
    rw [List.length_append, prs_flat r, mkN_len]
    simp only [List.flatten_cons, List.flatten_nil, List.append_nil, List.length_append]
    omega
theorem prs_hd : ∀ (ts : List (List zN)), nFr ((prs ts).headD []) = nFr (ts.headD [])
  | [] => rfl
  | [_] => rfl
  | _ :: _ :: _ => rfl
theorem prs_last : ∀ (ts : List (List zN)), nUp ((prs ts).getLastD []) = nUp (ts.getLastD [])
  | [] => rfl
  | [_] => rfl
  | [a, b] => by show nUp (mkN 1 (nFr a) (nUp b) 0 [a, b]) = nUp b; exact mkN_up
  | a :: b :: c :: r => by
    have ih := prs_last (c :: r)
    have hne : prs (c :: r) ≠ [] := fun z => by have := prs_len (c :: r); rw [z] at this; simp at this; omega
    have e1 : (prs (a :: b :: c :: r)).getLastD [] = (prs (c :: r)).getLastD [] := by
      show (mkN 1 (nFr a) (nUp b) 0 [a, b] :: prs (c :: r)).getLastD [] = _
      cases hp : prs (c :: r) with
      | nil => exact absurd hp hne
      | cons x y => simp [List.getLastD_cons]
    rw [e1, ih]
    simp [List.getLastD_cons]
theorem prs_take : ∀ (p : Nat) (ts : List (List zN)), 2 * p ≤ ts.length → prs (ts.take (2 * p)) = (prs ts).take p ∧ prs (ts.drop (2 * p)) = (prs ts).drop p
  | 0, ts, _ => ⟨rfl, rfl⟩
  | p + 1, [], h => absurd h (by simp)
  | p + 1, [_], h => absurd h (by simp; omega)
  | p + 1, a :: b :: r, h => by
    have h : 2 * (p + 1) ≤ r.length + 1 + 1 := h
    obtain ⟨i1, i2⟩ := prs_take p r (by omega)
    rw [show 2 * (p + 1) = 2 * p + 1 + 1 by omega]
    refine ⟨?_, i2⟩
    show mkN 1 (nFr a) (nUp b) 0 [a, b] :: prs (r.take (2 * p)) = mkN 1 (nFr a) (nUp b) 0 [a, b] :: (prs r).take p
    rw [i1]
theorem balF_prs : ∀ (n : Nat) (ts : List (List zN)), ts.length ≤ n → 1 ≤ ts.length → balF ts.length ts = balF (prs ts).length (prs ts)
  | 0, ts, h, h2 => absurd h2 (by omega)
  | n + 1, ts, h, h2 => by
    match ts, h, h2 with
    | [t], _, _ => rfl
    | [a, b], _, _ => rfl
    | a :: b :: c :: r, h, _ =>
      have l3 : 3 ≤ (a :: b :: c :: r).length := by simp
      generalize a :: b :: c :: r = ts at h l3
      have lp := prs_len ts
      have p2 := pw2_two l3
      have q1 := pw2_pos ((ts.length + 1) / 2)
      have q2 := pw2_lt (n := (ts.length + 1) / 2) (by omega)
      obtain ⟨t1, t2⟩ := prs_take (pw2 ((ts.length + 1) / 2)) ts (by have := pw2_lt (n := ts.length) (by omega); omega)
      have q3 := pw2_lt (n := ts.length) (by omega)
      obtain ⟨f, hf⟩ : ∃ f, ts.length = f + 1 := ⟨ts.length - 1, by omega⟩
      obtain ⟨g, hg⟩ : ∃ g, (prs ts).length = g + 1 := ⟨(prs ts).length - 1, by omega⟩
      have lt : (ts.take (2 * pw2 ((ts.length + 1) / 2))).length = 2 * pw2 ((ts.length + 1) / 2) := by rw [List.length_take]; omega
      have ld : (ts.drop (2 * pw2 ((ts.length + 1) / 2))).length = ts.length - 2 * pw2 ((ts.length + 1) / 2) := List.length_drop
      have i1 := balF_prs n (ts.take (2 * pw2 ((ts.length + 1) / 2))) (by omega) (by omega)
      have i2 := balF_prs n (ts.drop (2 * pw2 ((ts.length + 1) / 2))) (by omega) (by omega)
      have e1 := balF_two f ts (by omega)
      have e2 := balF_two g (prs ts) (by omega)
      rw [← hf] at e1
      rw [← hg] at e2
      rw [e1, e2, prs_hd, prs_last, lp, p2, ← t1, ← t2]
      have n1 : ∀ {l : List (List zN)}, 1 ≤ l.length → l ≠ [] := fun hl z => by rw [z] at hl; simp at hl
      have l1 := prs_len (ts.take (2 * pw2 ((ts.length + 1) / 2)))
      have l2 := prs_len (ts.drop (2 * pw2 ((ts.length + 1) / 2)))
      rw [balF_fuel f (ts.take (2 * pw2 ((ts.length + 1) / 2))).length _ (by omega) (Nat.le_refl _) (n1 (by omega)), i1, balF_fuel f (ts.drop (2 * pw2 ((ts.length + 1) / 2))).length _ (by omega) (Nat.le_refl _) (n1 (by omega)), i2, balF_fuel g (prs (ts.take (2 * pw2 ((ts.length + 1) / 2)))).length _ (by omega) (Nat.le_refl _) (n1 (by omega)), balF_fuel g (prs (ts.drop (2 * pw2 ((ts.length + 1) / 2)))).length _ (by omega) (Nat.le_refl _) (n1 (by omega))]
theorem bal_prs (ts : List (List zN)) : bal (prs ts) = bal ts := by
  match ts with
  | [] => rfl
  | [t] => rfl
  | a :: b :: r =>
    have := balF_prs _ (a :: b :: r) (Nat.le_refl _) (by simp)
    show [balF (prs (a :: b :: r)).length (prs (a :: b :: r))] = [balF (a :: b :: r).length (a :: b :: r)]
    rw [this]
