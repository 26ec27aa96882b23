/-! WHAT TOKENS ARE: facts of toks -/
def tq (t : List Int) (q : zT) : Prop := (0 ≤ q.2.1 ∧ q.2.1 < q.2.2.1 ∧ q.2.2.1 ≤ (t.length : Int) ∧ q.2.1 ≤ q.2.2.2.1 ∧ q.2.2.2.1 ≤ (t.length : Int)) ∧
  ((q.1 = 0 ∧ q.2.2.2.2 = key t q.2.1 q.2.2.1 ∧ isLet (tb t q.2.1) = true ∧ q.2.2.1 = skp isLet t q.2.1 ∧ q.2.2.2.1 = q.2.2.1) ∨
   (q.1 = 1 ∧ q.2.2.2.2 = 0 ∧ isDig (tb t q.2.1) = true ∧ q.2.2.1 = skp isDig t q.2.1 ∧ q.2.2.2.1 = q.2.2.1) ∨
   (q.1 = 2 ∧ q.2.2.2.2 = 0 ∧ tb t q.2.1 = 39 ∧ q.2.2.1 = skp inQ t (q.2.1 + 1) + 1 ∧ q.2.1 + 2 ≤ q.2.2.1 ∧ q.2.2.2.1 = q.2.2.1 - 1) ∨
   (q.1 = 3 ∧ q.2.2.2.2 = tb t q.2.1 ∧ isMk (tb t q.2.1) = true ∧ q.2.2.1 = q.2.1 + 1 ∧ q.2.2.2.1 = q.2.1) ∨
   (q.1 = 4 ∧ q.2.2.2.2 = 0 ∧ q.2.2.1 = q.2.1 + 1))
theorem tk1_tq {t : List Int} {i : Int} (h0 : 0 ≤ i) (hi : i < (t.length : Int)) {q : zT} (h : (tk1 t i).1 = some q) : tq t q ∧ q.2.1 = i ∧ q.2.2.1 = (tk1 t i).2 := by
  by_cases c1 : tb t i = 32 ∨ tb t i = 10
  · rw [tk1, if_pos c1] at h; cases h
  by_cases c2 : tb t i = 35
  · rw [tk1, if_neg c1, if_pos c2] at h; cases h
  by_cases c3 : isLet (tb t i) = true
  · have g := skp_gt hi c3
    have e : tk1 t i = (some (0, i, skp isLet t i, skp isLet t i, key t i (skp isLet t i)), skp isLet t i) := by rw [tk1, if_neg c1, if_neg c2, if_pos c3]
    rw [e] at h ⊢
    cases h
    exact ⟨⟨⟨h0, g.1, g.2, by show i ≤ skp isLet t i; omega, g.2⟩, Or.inl ⟨rfl, rfl, c3, rfl, rfl⟩⟩, rfl, rfl⟩
  by_cases c4 : isDig (tb t i) = true
  · have g := skp_gt hi c4
    have e : tk1 t i = (some (1, i, skp isDig t i, skp isDig t i, 0), skp isDig t i) := by rw [tk1, if_neg c1, if_neg c2, if_neg c3, if_pos c4]
    rw [e] at h ⊢
    cases h
    exact ⟨⟨⟨h0, g.1, g.2, by show i ≤ skp isDig t i; omega, g.2⟩, Or.inr (Or.inl ⟨rfl, rfl, c4, rfl, rfl⟩)⟩, rfl, rfl⟩
  by_cases c5 : tb t i = 39
  · have g := skp_ge inQ t _ (i + 1) rfl
    have g2 := skp_ge (notC 10) t _ i rfl
    by_cases c6 : skp inQ t (i + 1) < skp (notC 10) t i
    · have e : tk1 t i = (some (2, i, skp inQ t (i + 1) + 1, skp inQ t (i + 1), 0), skp inQ t (i + 1) + 1) := by rw [tk1, if_neg c1, if_neg c2, if_neg c3, if_neg c4, if_pos c5, if_pos c6]
      have g3 := g2.2.1 (by omega)
      rw [e] at h ⊢
      cases h
      exact ⟨⟨⟨h0, by show i < skp inQ t (i + 1) + 1; omega, by show skp inQ t (i + 1) + 1 ≤ _; omega, by show i ≤ skp inQ t (i + 1); omega, by show skp inQ t (i + 1) ≤ _; omega⟩, Or.inr (Or.inr (Or.inl ⟨rfl, rfl, c5, rfl, by show i + 2 ≤ skp inQ t (i + 1) + 1; omega, by show skp inQ t (i + 1) = skp inQ t (i + 1) + 1 - 1; omega⟩))⟩, rfl, rfl⟩
    · have e : tk1 t i = (some (4, i, i + 1, skp (notC 10) t i, 0), i + 1) := by rw [tk1, if_neg c1, if_neg c2, if_neg c3, if_neg c4, if_pos c5, if_neg c6]
      have g3 := g2.2.1 (by omega)
      rw [e] at h ⊢
      cases h
      exact ⟨⟨⟨h0, by show i < i + 1; omega, by show i + 1 ≤ _; omega, g2.1, g3⟩, Or.inr (Or.inr (Or.inr (Or.inr ⟨rfl, rfl, rfl⟩)))⟩, rfl, rfl⟩
  by_cases c6 : isMk (tb t i) = true
  · have e : tk1 t i = (some (3, i, i + 1, i, tb t i), i + 1) := by rw [tk1, if_neg c1, if_neg c2, if_neg c3, if_neg c4, if_neg c5, if_pos c6]
    rw [e] at h ⊢
    cases h
    exact ⟨⟨⟨h0, by show i < i + 1; omega, by show i + 1 ≤ _; omega, Int.le_refl _, by show i ≤ _; omega⟩, Or.inr (Or.inr (Or.inr (Or.inl ⟨rfl, rfl, c6, rfl, rfl⟩)))⟩, rfl, rfl⟩
  · have e : tk1 t i = (some (4, i, i + 1, i, 0), i + 1) := by rw [tk1, if_neg c1, if_neg c2, if_neg c3, if_neg c4, if_neg c5, if_neg c6]
    rw [e] at h ⊢
    cases h
    exact ⟨⟨⟨h0, by show i < i + 1; omega, by show i + 1 ≤ _; omega, Int.le_refl _, by show i ≤ _; omega⟩, Or.inr (Or.inr (Or.inr (Or.inr ⟨rfl, rfl, rfl⟩)))⟩, rfl, rfl⟩
theorem toksF_all (t : List Int) : ∀ (f : Nat) (i : Int), 0 ≤ i → (∀ q ∈ toksF f t i, tq t q ∧ i ≤ q.2.1) ∧ (toksF f t i).Pairwise (fun a b => a.2.2.1 ≤ b.2.1)
  | 0, _, _ => ⟨fun q hq => absurd hq List.not_mem_nil, List.Pairwise.nil⟩
  | f + 1, i, h0 => by
    unfold toksF
    by_cases hi : i < (t.length : Int)
    · rw [if_pos hi]
      have hn := tk1_next hi
      have ih := toksF_all t f (tk1 t i).2 (by omega)
      cases h : (tk1 t i).1 with
      | none =>
        rw [show (none : Option zT).toList = [] from rfl, List.nil_append]
        exact ⟨fun q hq => ⟨(ih.1 q hq).1, by have := (ih.1 q hq).2; omega⟩, ih.2⟩
      | some q0 =>
        have e := tk1_tq h0 hi h
        rw [show (some q0).toList = [q0] from rfl, List.singleton_append]
        refine ⟨fun q hq => ?_, List.pairwise_cons.mpr ⟨fun q hq => ?_, ih.2⟩⟩
        · rcases List.mem_cons.mp hq with rfl | hq
          · exact ⟨e.1, by omega⟩
          · exact ⟨(ih.1 q hq).1, by have := (ih.1 q hq).2; omega⟩
        · rw [e.2.2]; exact (ih.1 q hq).2
    · rw [if_neg hi]
      exact ⟨fun q hq => absurd hq List.not_mem_nil, List.Pairwise.nil⟩
/-- each token of a text -/
theorem tq_at {t : List Int} {i : Int} (h : 0 ≤ i ∧ i < ((toks t).length : Int)) : tq t (tk (toks t) i) := by
  rw [tk_in h, List.getD_eq_getElem?_getD, List.getElem?_eq_getElem (show i.toNat < (toks t).length by omega), Option.getD_some]
  exact ((toksF_all t t.length 0 (Int.le_refl _)).1 _ (List.getElem_mem _)).1
/-- tokens stand in order -/
theorem tq_ord {t : List Int} {i j : Int} (h0 : 0 ≤ i) (hij : i < j) (hj : j < ((toks t).length : Int)) : (tk (toks t) i).2.2.1 ≤ (tk (toks t) j).2.1 := by
  rw [tk_in ⟨h0, by omega⟩, tk_in ⟨by omega, hj⟩]
  have pw := (toksF_all t t.length 0 (Int.le_refl _)).2
  have := (List.pairwise_iff_getElem.mp pw) i.toNat j.toNat (show i.toNat < (toks t).length by omega) (show j.toNat < (toks t).length by omega) (by omega)
  rw [List.getD_eq_getElem?_getD, List.getD_eq_getElem?_getD, List.getElem?_eq_getElem (show i.toNat < (toks t).length by omega), List.getElem?_eq_getElem (show j.toNat < (toks t).length by omega)]
  exact this
theorem key_rng (t : List Int) (a b : Int) : 0 ≤ key t a b ∧ key t a b ≤ 3 := by
  unfold key
  repeat' split
  all_goals decide
theorem mk_rng {c : Int} (h : isMk c = true) : 40 ≤ c ∧ c ≤ 125 := by
  unfold isMk at h
  have := of_decide_eq_true h
  omega
theorem tkOK_toks (t : List Int) : tkOK (toks t) := by
  intro i
  unfold srt sgn
  by_cases h : 0 ≤ i ∧ i < ((toks t).length : Int)
  · obtain ⟨-, h1 | h1 | h1 | h1 | h1⟩ := tq_at h
    · have := key_rng t (tk (toks t) i).2.1 (tk (toks t) i).2.2.1
      refine ⟨fun _ => by rw [h1.2.1]; exact this, fun z => by omega, fun z => by omega⟩
    · exact ⟨fun z => by omega, fun z => by omega, fun _ _ => h1.2.1⟩
    · exact ⟨fun z => by omega, fun z => by omega, fun _ _ => h1.2.1⟩
    · have := mk_rng h1.2.2.1
      exact ⟨fun z => by omega, fun _ => by rw [h1.2.1]; exact this, fun _ z => by omega⟩
    · exact ⟨fun z => by omega, fun z => by omega, fun _ _ => h1.2.1⟩
  · rw [tk_out h]
    exact ⟨fun z => absurd z (by decide), fun z => absurd z (by decide), fun _ _ => rfl⟩
theorem toks_len (t : List Int) : (toks t).length ≤ t.length := by
  have h : ∀ (f : Nat) (i : Int), 0 ≤ i → i ≤ (t.length : Int) → (((toksF f t i).length : Nat) : Int) ≤ (t.length : Int) - i := by
    intro f
    induction f with
    | zero => intro i h0 hl; show (0 : Int) ≤ _; omega
    | succ f ih =>
      intro i h0 hl
      unfold toksF
      by_cases hi : i < (t.length : Int)
      · rw [if_pos hi, List.length_append]
        have hn := tk1_next hi
        have := ih (tk1 t i).2 (by omega) hn.2
        have : (tk1 t i).1.toList.length ≤ 1 := by cases (tk1 t i).1 <;> simp
        omega
      · rw [if_neg hi]; show (0 : Int) ≤ _; omega
  have := h t.length 0 (Int.le_refl _) (by omega)
  unfold toks
  omega
/-- the reference's rows of tokens -/
theorem RR_at {T : List zT} {M : zM} (h : RR T M) {i : Int} (hi : 0 ≤ i ∧ i < (T.length : Int)) : M 81 i = (tk T i).1 ∧ M 82 i = (tk T i).2.1 ∧ M 83 i = (tk T i).2.2.1 - (tk T i).2.1 ∧ M 84 i = (tk T i).2.2.2.1 := by
  have := h.2.2 i.toNat (by omega)
  rw [show ((i.toNat : Nat) : Int) = i by omega] at this
  rw [tk_in hi]
  exact this
