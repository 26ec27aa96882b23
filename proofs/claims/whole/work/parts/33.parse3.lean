section PE
variable {T : List zT}
theorem px_ret {mo : Nat} {ne : Int} {le : List zN} {at_ : Int} {ok : List (List zN) × Int → Prop} {r : List (List zN) × Int} (h : P T 1 mo ne le at_ = some r) (hr : ok r) : Px T mo ne le at_ ok := ⟨1, r, h, hr⟩
theorem px_part {n : Nat} (ih : PxA T n) {at_ : Int} (h0 : 0 ≤ at_) (hl : at_ ≤ (T.length : Int)) (hn : ((T.length : Int) - at_).toNat < n + 1) (ne : Int) : Px T 5 ne [] at_ (okE T at_) := by
  have leaf : ∀ so : Int, at_ < (T.length : Int) → okE T at_ ([lfN so at_ 1 0], at_ + 1) := fun so h => ⟨_, rfl, mkN_ne, by show at_ ≤ at_ + 1; omega, by show at_ + 1 ≤ _; omega, mkN_fr, mkN_up, by show ((lfN so at_ 1 0).length : Int) ≤ 3 * (at_ + 1 - at_) + 1; rw [lfN_len]; omega⟩
  by_cases c1 : srt T at_ = 0 ∧ sgn T at_ = 0
  · exact px_ret (by unfold P; simp only; rw [if_pos c1]) (leaf 12 (srt_lt (by omega)).2)
  · by_cases c2 : srt T at_ = 1
    · exact px_ret (by unfold P; simp only; rw [if_neg c1, if_pos c2]) (leaf 13 (srt_lt (by omega)).2)
    · by_cases c3 : srt T at_ = 2
      · exact px_ret (by unfold P; simp only; rw [if_neg c1, if_neg c2, if_pos c3]) (leaf 14 (srt_lt (by omega)).2)
      · by_cases c4 : ¬ sgn T at_ = 40 ∨ 10 ≤ ne
        · refine px_ret (by unfold P; simp only; rw [if_neg c1, if_neg c2, if_neg c3, if_pos c4]) ⟨_, rfl, mkN_ne, Int.le_refl _, hl, mkN_fr, by rw [mkN_up]; show at_ + 0 = at_; omega, by show ((lfN 17 at_ 0 0).length : Int) ≤ 3 * (at_ - at_) + 1; rw [lfN_len]; omega⟩
        · have hlt := (sgn_lt (T := T) (i := at_) (by omega)).2
          obtain ⟨f, r, e, τ, e1, -, e3, e4, -, -, e7⟩ := (ih (at_ + 1) (by omega) (by omega) (by omega)).1 (ne + 1)
          obtain ⟨k1, k2, k3⟩ := clos_ok (T := T) (sg := 41) (at_ := r.2) ⟨by omega, e4⟩ (by decide)
          refine ⟨f + 1, ([mkN 15 at_ (clos T 41 r.2).2 0 ([lfN 16 at_ 1 40] ++ r.1 ++ [(clos T 41 r.2).1])], (clos T 41 r.2).2), ?_, _, rfl, mkN_ne, ?_, k2, mkN_fr, mkN_up, ?_⟩
          · unfold P
            simp only
            rw [if_neg c1, if_neg c2, if_neg c3, if_neg c4, e]
            rfl
          · show at_ ≤ (clos T 41 r.2).2
            omega
          · show ((mkN 15 at_ (clos T 41 r.2).2 0 ([lfN 16 at_ 1 40] ++ r.1 ++ [(clos T 41 r.2).1])).length : Int) ≤ 3 * ((clos T 41 r.2).2 - at_) + 1
            rw [mkN_len, e1]
            simp only [List.flatten_append, List.flatten_cons, List.flatten_nil, List.append_nil, List.length_append, lfN_len, k3]
            omega
theorem px_loop {n : Nat} (ih : PxA T n) {at_ : Int} (h0 : 0 ≤ at_) (hl : at_ ≤ (T.length : Int)) (hn : ((T.length : Int) - at_).toNat < n + 1) (ne : Int) (le : List zN) (hle : le ≠ []) (hup : nUp le = at_) : Px T 7 ne le at_ (okL T le at_) := by
  by_cases c : sgn T at_ = 42 ∨ sgn T at_ = 47
  · have hlt := (sgn_lt (T := T) (i := at_) (by omega)).2
    obtain ⟨f, r, e, τ, e1, e2, e3, e4, e5, e6, e7⟩ := (ih (at_ + 1) (by omega) (by omega) (by omega)).2.2.1 ne
    obtain ⟨f2, r2, q, τ2, q1, q2, q3, q4, q5, q6, q7⟩ := (ih r.2 (by omega) e4 (by omega)).2.2.2.2.1 ne (mkN 11 (nFr le) r.2 0 ([le, lfN 16 at_ 1 (sgn T at_)] ++ r.1)) mkN_ne mkN_up
    refine ⟨max f f2 + 1, r2, ?_, τ2, q1, q2, by omega, q4, q5, q6, ?_⟩
    · unfold P
      simp only
      rw [if_pos c, P_le T e (Nat.le_max_left _ _)]
      exact P_le T q (Nat.le_max_right _ _)
    · rw [mkN_len, e1] at q7
      simp only [List.flatten_append, List.flatten_cons, List.flatten_nil, List.append_nil, List.length_append, lfN_len] at q7
      omega
  · exact px_ret (by unfold P; simp only; rw [if_neg c]) ⟨le, rfl, hle, Int.le_refl _, hl, rfl, hup, by show (le.length : Int) ≤ le.length + 3 * (at_ - at_); omega⟩
theorem px_term {n : Nat} (ih : PxA T n) {at_ : Int} (h0 : 0 ≤ at_) (hl : at_ ≤ (T.length : Int)) (hn : ((T.length : Int) - at_).toNat < n + 1) (ne : Int) : Px T 4 ne [] at_ (okE T at_) := by
  obtain ⟨f, r, e, τ, e1, e2, e3, e4, e5, e6, e7⟩ := px_part ih h0 hl hn ne
  obtain ⟨f2, r2, q, τ2, q1, q2, q3, q4, q5, q6, q7⟩ := px_loop ih (at_ := r.2) (by omega) e4 (by omega) ne τ e2 e6
  refine ⟨max f f2 + 1, r2, ?_, τ2, q1, q2, by omega, q4, by rw [q5]; exact e5, q6, by omega⟩
  unfold P
  simp only
  rw [P_le T e (Nat.le_max_left _ _)]
  show P T (max f f2) 7 ne r.1.flatten r.2 = some r2
  rw [e1, show ([τ] : List (List zN)).flatten = τ by simp]
  exact P_le T q (Nat.le_max_right _ _)
theorem px_loop2 {n : Nat} (ih : PxA T n) {at_ : Int} (h0 : 0 ≤ at_) (hl : at_ ≤ (T.length : Int)) (hn : ((T.length : Int) - at_).toNat < n + 1) (ne : Int) (le : List zN) (hle : le ≠ []) (hup : nUp le = at_) : Px T 6 ne le at_ (okL T le at_) := by
  by_cases c : sgn T at_ = 43 ∨ sgn T at_ = 45
  · have hlt := (sgn_lt (T := T) (i := at_) (by omega)).2
    obtain ⟨f, r, e, τ, e1, e2, e3, e4, e5, e6, e7⟩ := (ih (at_ + 1) (by omega) (by omega) (by omega)).2.1 ne
    obtain ⟨f2, r2, q, τ2, q1, q2, q3, q4, q5, q6, q7⟩ := (ih r.2 (by omega) e4 (by omega)).2.2.2.1 ne (mkN 10 (nFr le) r.2 0 ([le, lfN 16 at_ 1 (sgn T at_)] ++ r.1)) mkN_ne mkN_up
    refine ⟨max f f2 + 1, r2, ?_, τ2, q1, q2, by omega, q4, q5, q6, ?_⟩
    · unfold P
      simp only
      rw [if_pos c, P_le T e (Nat.le_max_left _ _)]
      exact P_le T q (Nat.le_max_right _ _)
    · rw [mkN_len, e1] at q7
      simp only [List.flatten_append, List.flatten_cons, List.flatten_nil, List.append_nil, List.length_append, lfN_len] at q7
      omega
  · exact px_ret (by unfold P; simp only; rw [if_neg c]) ⟨le, rfl, hle, Int.le_refl _, hl, rfl, hup, by show (le.length : Int) ≤ le.length + 3 * (at_ - at_); omega⟩
theorem px_expr {n : Nat} (ih : PxA T n) {at_ : Int} (h0 : 0 ≤ at_) (hl : at_ ≤ (T.length : Int)) (hn : ((T.length : Int) - at_).toNat < n + 1) (ne : Int) : Px T 3 ne [] at_ (okE T at_) := by
  obtain ⟨f, r, e, τ, e1, e2, e3, e4, e5, e6, e7⟩ := px_term ih h0 hl hn ne
  obtain ⟨f2, r2, q, τ2, q1, q2, q3, q4, q5, q6, q7⟩ := px_loop2 ih (at_ := r.2) (by omega) e4 (by omega) ne τ e2 e6
  refine ⟨max f f2 + 1, r2, ?_, τ2, q1, q2, by omega, q4, by rw [q5]; exact e5, q6, by omega⟩
  unfold P
  simp only
  rw [P_le T e (Nat.le_max_left _ _)]
  show P T (max f f2) 6 ne r.1.flatten r.2 = some r2
  rw [e1, show ([τ] : List (List zN)).flatten = τ by simp]
  exact P_le T q (Nat.le_max_right _ _)
theorem px_list {n : Nat} (ih : PxA T n) {at_ : Int} (h0 : 0 ≤ at_) (hl : at_ ≤ (T.length : Int)) (hn : ((T.length : Int) - at_).toNat < n + 1) (ne : Int) : Px T 8 ne [] at_ (okC T at_) := by
  by_cases c : sgn T at_ = 44
  · have hlt := (sgn_lt (T := T) (i := at_) (by omega)).2
    obtain ⟨f, r, e, τ, e1, e2, e3, e4, e5, e6, e7⟩ := (ih (at_ + 1) (by omega) (by omega) (by omega)).1 ne
    obtain ⟨f2, r2, q, q1, q2, q3⟩ := (ih r.2 (by omega) e4 (by omega)).2.2.2.2.2.1 ne
    refine ⟨max f f2 + 1, ([lfN 16 at_ 1 0] ++ r.1 ++ r2.1, r2.2), ?_, by show at_ ≤ r2.2; omega, q2, ?_⟩
    · unfold P
      simp only
      rw [if_pos c, P_le T e (Nat.le_max_left _ _)]
      show (P T (max f f2) 8 ne [] r.2).bind _ = _
      rw [P_le T q (Nat.le_max_right _ _)]
      rfl
    · show (([lfN 16 at_ 1 0] ++ r.1 ++ r2.1).flatten.length : Int) ≤ 3 * (r2.2 - at_)
      rw [e1]
      simp only [List.flatten_append, List.flatten_cons, List.flatten_nil, List.append_nil, List.length_append, lfN_len]
      omega
  · exact px_ret (by unfold P; simp only; rw [if_neg c]) ⟨Int.le_refl _, hl, by show (([] : List (List zN)).flatten.length : Int) ≤ 3 * (at_ - at_); simp⟩
theorem px_list' {n : Nat} (ih : PxA T n) {at_ : Int} (h0 : 0 ≤ at_) (hl : at_ ≤ (T.length : Int)) (hn : ((T.length : Int) - at_).toNat < n) (ne : Int) : ∃ (f : Nat) (r : List (List zN) × Int), P T f 8 ne [] at_ = some r ∧ at_ ≤ r.2 ∧ r.2 ≤ (T.length : Int) ∧ (r.1.flatten.length : Int) ≤ 3 * (r.2 - at_) := (ih at_ h0 hl hn).2.2.2.2.2.1 ne
/-- what signs there are: words' 0 to 3, marks' their bytes -/
def tkOK (T : List zT) : Prop := ∀ i : Int, (srt T i = 0 → 0 ≤ sgn T i ∧ sgn T i ≤ 3) ∧ (srt T i = 3 → 40 ≤ sgn T i ∧ sgn T i ≤ 125) ∧ (srt T i ≠ 0 → srt T i ≠ 3 → sgn T i = 0)
theorem sgn_word (hT : tkOK T) {i : Int} (h : 1 ≤ sgn T i ∧ sgn T i ≤ 3) : srt T i = 0 := by
  obtain ⟨-, a, b⟩ := hT i
  by_cases h0 : srt T i = 0
  · exact h0
  · exfalso
    by_cases h3 : srt T i = 3
    · have := a h3; omega
    · have := b h0 h3; omega
theorem istart_lt {i : Int} (h : istart T i) : 0 ≤ i ∧ i < (T.length : Int) := by
  rcases h with h | h | h
  · exact srt_lt (by omega)
  · exact sgn_lt (by omega)
  · exact sgn_lt (by omega)
theorem px_item {n : Nat} (hT : tkOK T) (ih : PxA T n) {at_ : Int} (h0 : 0 ≤ at_) (hl : at_ < (T.length : Int)) (hn : ((T.length : Int) - at_).toNat < n + 1) (ne : Int) : Px T 1 ne [] at_ (okI T at_) := by
  by_cases c1 : (sgn T at_ = 1 ∨ sgn T at_ = 3) ∧ ne < 10
  · have hst : srt T at_ = 0 → istart T at_ := fun h => Or.inl ⟨h, by omega⟩
    obtain ⟨f, e, pe, τ, e1, e2, e3, e4, e5, e6, e7⟩ := (ih (at_ + 1) (by omega) (by omega) (by omega)).1 (ne + 1)
    obtain ⟨f2, b, pb, hb⟩ := (ih e.2 (by omega) e4 (by omega)).2.2.2.2.2.2.2.1 (ne + 1)
    have hbb : e.2 ≤ b.2 ∧ b.2 ≤ (T.length : Int) ∧ ((b.1.flatten.length : Int) ≤ 4 * (b.2 - e.2) ∨ (b.2 = e.2 ∧ b.1.flatten.length = 1 ∧ ¬ istart T b.2)) := by
      rcases hb with ⟨-, τb, b1, -, b3, b4, -, -, b7, -⟩ | ⟨hs, rfl⟩
      · rw [b1, show ([τb] : List (List zN)).flatten = τb by simp]
        exact ⟨by omega, b4, Or.inl (by rcases b7 with h | h <;> omega)⟩
      · exact ⟨Int.le_refl _, e4, Or.inr ⟨rfl, rfl, hs⟩⟩
    obtain ⟨g1, g2, g3⟩ := hbb
    by_cases c2 : sgn T at_ = 1 ∧ sgn T b.2 = 2
    · have hbl := (sgn_lt (T := T) (i := b.2) (by omega)).2
      obtain ⟨f3, b2, pb2, hb2⟩ := (ih (b.2 + 1) (by omega) (by omega) (by omega)).2.2.2.2.2.2.2.1 (ne + 1)
      have hbb2 : b.2 + 1 ≤ b2.2 ∧ b2.2 ≤ (T.length : Int) ∧ ((b2.1.flatten.length : Int) ≤ 4 * (b2.2 - (b.2 + 1)) + 1) := by
        rcases hb2 with ⟨-, τb, b1, -, b3, b4, -, -, b7, -⟩ | ⟨hs, rfl⟩
        · rw [b1, show ([τb] : List (List zN)).flatten = τb by simp]
          exact ⟨by omega, b4, by rcases b7 with h | h <;> omega⟩
        · exact ⟨Int.le_refl _, by show b.2 + 1 ≤ _; omega, by show ((lfN 17 (b.2 + 1) 0 0).length : Int) ≤ _; rw [lfN_len]; show (1 : Int) ≤ 4 * (b.2 + 1 - (b.2 + 1)) + 1; omega⟩
      obtain ⟨q1, q2, q3⟩ := hbb2
      refine ⟨max f (max f2 f3) + 1, ([mkN 6 at_ b2.2 0 ([lfN 16 at_ 1 0] ++ e.1 ++ b.1 ++ [lfN 16 b.2 1 0] ++ b2.1)], b2.2), ?_, _, rfl, mkN_ne, by show at_ < b2.2; omega, q2, mkN_fr, mkN_up, Or.inl ?_, fun hs => ?_⟩
      · unfold P
        simp only
        rw [if_pos c1, P_le T pe (Nat.le_max_left _ _)]
        show (P T (max f (max f2 f3)) 2 (ne + 1) [] e.2).bind _ = _
        rw [P_le T pb (Nat.le_trans (Nat.le_max_left _ _) (Nat.le_max_right _ _))]
        show (if sgn T at_ = 1 ∧ sgn T b.2 = 2 then _ else _) = _
        rw [if_pos c2, P_le T pb2 (Nat.le_trans (Nat.le_max_right _ _) (Nat.le_max_right _ _))]
        rfl
      · show ((mkN 6 at_ b2.2 0 ([lfN 16 at_ 1 0] ++ e.1 ++ b.1 ++ [lfN 16 b.2 1 0] ++ b2.1)).length : Int) + 1 ≤ 4 * (b2.2 - at_)
        rw [mkN_len, e1]
        simp only [List.flatten_append, List.flatten_cons, List.flatten_nil, List.append_nil, List.length_append, lfN_len]
        rcases g3 with g3 | ⟨g3, g4, -⟩ <;> omega
      · exfalso
        apply hs
        have := sgn_word hT (i := at_) (by omega)
        exact hst this
    · refine ⟨max f f2 + 1, ([mkN (if sgn T at_ = 1 then 6 else 7) at_ b.2 0 ([lfN 16 at_ 1 0] ++ e.1 ++ b.1)], b.2), ?_, _, rfl, mkN_ne, by show at_ < b.2; omega, g2, mkN_fr, mkN_up, ?_, fun hs => ?_⟩
      · unfold P
        simp only
        rw [if_pos c1, P_le T pe (Nat.le_max_left _ _)]
        show (P T (max f f2) 2 (ne + 1) [] e.2).bind _ = _
        rw [P_le T pb (Nat.le_max_right _ _)]
        show (if sgn T at_ = 1 ∧ sgn T b.2 = 2 then _ else _) = _
        rw [if_neg c2]
      · show ((mkN (if sgn T at_ = 1 then 6 else 7) at_ b.2 0 ([lfN 16 at_ 1 0] ++ e.1 ++ b.1)).length : Int) + 1 ≤ 4 * (b.2 - at_) ∨ (((mkN (if sgn T at_ = 1 then 6 else 7) at_ b.2 0 ([lfN 16 at_ 1 0] ++ e.1 ++ b.1)).length : Int) ≤ 4 * (b.2 - at_) ∧ ¬ istart T b.2)
        rw [mkN_len, e1]
        simp only [List.flatten_append, List.flatten_cons, List.flatten_nil, List.append_nil, List.length_append, lfN_len]
        rcases g3 with g3 | ⟨g3, g4, g5⟩
        · left; omega
        · right; exact ⟨by omega, g5⟩
      · exfalso
        apply hs
        have := sgn_word hT (i := at_) (by omega)
        exact hst this
  · by_cases c2 : sgn T at_ = 123 ∧ ne < 10
    · obtain ⟨f, is, pi, i1, i2, i3, i4, i5, i6⟩ := (ih (at_ + 1) (by omega) (by omega) (by omega)).2.2.2.2.2.2.2.2 (ne + 1) [(0, 0, 0, 0, 0, 0)]
      obtain ⟨k1, k2, k3⟩ := clos_ok (T := T) (sg := 125) (at_ := is.2) ⟨by omega, i2⟩ (by decide)
      refine ⟨f + 1, ([mkN 5 at_ (clos T 125 is.2).2 0 ([lfN 16 at_ 1 123] ++ bal is.1 ++ [(clos T 125 is.2).1])], (clos T 125 is.2).2), ?_, _, rfl, mkN_ne, by show at_ < (clos T 125 is.2).2; omega, k2, mkN_fr, mkN_up, Or.inl ?_, fun hs => absurd (Or.inr (Or.inl c2.1)) hs⟩
      · unfold P
        simp only
        rw [if_neg c1, if_pos c2, pi]
        rfl
      · show ((mkN 5 at_ (clos T 125 is.2).2 0 ([lfN 16 at_ 1 123] ++ bal is.1 ++ [(clos T 125 is.2).1])).length : Int) + 1 ≤ 4 * ((clos T 125 is.2).2 - at_)
        rw [mkN_len]
        simp only [List.flatten_append, List.flatten_cons, List.flatten_nil, List.append_nil, List.length_append, lfN_len, k3]
        by_cases he : is.1 = []
        · rw [he]
          simp only [bal, List.flatten_nil, List.length_nil]
          omega
        · have := bal_len2 is.1 he
          omega
    · by_cases c3 : sgn T at_ = 59
      · exact px_ret (by unfold P; simp only; rw [if_neg c1, if_neg c2, if_pos c3]) ⟨_, rfl, mkN_ne, by show at_ < at_ + 1; omega, by show at_ + 1 ≤ _; omega, mkN_fr, mkN_up, Or.inl (by show ((lfN 8 at_ 1 0).length : Int) + 1 ≤ 4 * (at_ + 1 - at_); rw [lfN_len]; omega), fun _ => ⟨rfl, rfl⟩⟩
      · by_cases c4 : (srt T at_ = 0 ∧ sgn T at_ = 0) ∧ sgn T (at_ + 1) = 61
        · have h2 := (sgn_lt (T := T) (i := at_ + 1) (by omega)).2
          obtain ⟨f, e, pe, τ, e1, e2, e3, e4, e5, e6, e7⟩ := (ih (at_ + 2) (by omega) (by omega) (by omega)).1 ne
          obtain ⟨k1, k2, k3⟩ := clos_ok (T := T) (sg := 59) (at_ := e.2) ⟨by omega, e4⟩ (by decide)
          refine ⟨f + 1, ([mkN 2 at_ (clos T 59 e.2).2 0 ([lfN 12 at_ 1 0, lfN 16 (at_ + 1) 1 0] ++ e.1 ++ [(clos T 59 e.2).1])], (clos T 59 e.2).2), ?_, _, rfl, mkN_ne, by show at_ < (clos T 59 e.2).2; omega, k2, mkN_fr, mkN_up, Or.inl ?_, fun hs => absurd (Or.inl ⟨c4.1.1, by omega⟩) hs⟩
          · unfold P
            simp only
            rw [if_neg c1, if_neg c2, if_neg c3, if_pos c4, pe]
            rfl
          · show ((mkN 2 at_ (clos T 59 e.2).2 0 ([lfN 12 at_ 1 0, lfN 16 (at_ + 1) 1 0] ++ e.1 ++ [(clos T 59 e.2).1])).length : Int) + 1 ≤ 4 * ((clos T 59 e.2).2 - at_)
            rw [mkN_len, e1]
            simp only [List.flatten_append, List.flatten_cons, List.flatten_nil, List.append_nil, List.length_append, lfN_len, k3]
            omega
        · by_cases c5 : (srt T at_ = 0 ∧ sgn T at_ = 0) ∧ sgn T (at_ + 1) = 40
          · have h2 := (sgn_lt (T := T) (i := at_ + 1) (by omega)).2
            have hq : ∃ (f : Nat) (q : List (List zN) × Int), (if sgn T (at_ + 2) = 41 then some ([], at_ + 2) else (P T f 3 ne [] (at_ + 2)).bind fun e => (P T f 8 ne [] e.2).bind fun r => some ([mkN 4 (at_ + 2) r.2 0 (e.1 ++ r.1)], r.2)) = some q ∧ at_ + 2 ≤ q.2 ∧ q.2 ≤ (T.length : Int) ∧ (q.1.flatten.length : Int) ≤ 3 * (q.2 - (at_ + 2)) + 2 := by
              by_cases c6 : sgn T (at_ + 2) = 41
              · exact ⟨0, ([], at_ + 2), by rw [if_pos c6], Int.le_refl _, by show at_ + 2 ≤ _; omega, by show (([] : List (List zN)).flatten.length : Int) ≤ 3 * (at_ + 2 - (at_ + 2)) + 2; show (0 : Int) ≤ _; omega⟩
              · obtain ⟨f, e, pe, τ, e1, e2, e3, e4, e5, e6, e7⟩ := (ih (at_ + 2) (by omega) (by omega) (by omega)).1 ne
                obtain ⟨f2, r2, q, q1, q2, q3⟩ := px_list' ih (at_ := e.2) (by omega) e4 (by omega) ne
                refine ⟨max f f2, ([mkN 4 (at_ + 2) r2.2 0 (e.1 ++ r2.1)], r2.2), ?_, by show at_ + 2 ≤ r2.2; omega, q2, ?_⟩
                · rw [if_neg c6, P_le T pe (Nat.le_max_left _ _)]
                  show (P T (max f f2) 8 ne [] e.2).bind _ = _
                  rw [P_le T q (Nat.le_max_right _ _)]
                  rfl
                · show (([mkN 4 (at_ + 2) r2.2 0 (e.1 ++ r2.1)] : List (List zN)).flatten.length : Int) ≤ 3 * (r2.2 - (at_ + 2)) + 2
                  rw [show ([mkN 4 (at_ + 2) r2.2 0 (e.1 ++ r2.1)] : List (List zN)).flatten = mkN 4 (at_ + 2) r2.2 0 (e.1 ++ r2.1) by simp, mkN_len, e1]
                  simp only [List.flatten_append, List.flatten_cons, List.flatten_nil, List.append_nil, List.length_append]
                  omega
            obtain ⟨f, q, pq, q1, q2, q3⟩ := hq
            obtain ⟨k1, k2, k3⟩ := clos_ok (T := T) (sg := 41) (at_ := q.2) ⟨by omega, q2⟩ (by decide)
            obtain ⟨m1, m2, m3⟩ := clos_ok (T := T) (sg := 59) (at_ := (clos T 41 q.2).2) ⟨by omega, k2⟩ (by decide)
            refine ⟨f + 1, ([mkN 3 at_ (clos T 59 (clos T 41 q.2).2).2 0 ([lfN 12 at_ 1 0, lfN 16 (at_ + 1) 1 40] ++ q.1 ++ [(clos T 41 q.2).1, (clos T 59 (clos T 41 q.2).2).1])], (clos T 59 (clos T 41 q.2).2).2), ?_, _, rfl, mkN_ne, by show at_ < (clos T 59 (clos T 41 q.2).2).2; omega, m2, mkN_fr, mkN_up, Or.inl ?_, fun hs => absurd (Or.inl ⟨c5.1.1, by omega⟩) hs⟩
            · unfold P
              simp only
              rw [if_neg c1, if_neg c2, if_neg c3, if_neg c4, if_pos c5, pq]
              rfl
            · show ((mkN 3 at_ (clos T 59 (clos T 41 q.2).2).2 0 ([lfN 12 at_ 1 0, lfN 16 (at_ + 1) 1 40] ++ q.1 ++ [(clos T 41 q.2).1, (clos T 59 (clos T 41 q.2).2).1])).length : Int) + 1 ≤ 4 * ((clos T 59 (clos T 41 q.2).2).2 - at_)
              rw [mkN_len]
              simp only [List.flatten_append, List.flatten_cons, List.flatten_nil, List.append_nil, List.length_append, lfN_len, k3, m3]
              omega
          · exact px_ret (by unfold P; simp only; rw [if_neg c1, if_neg c2, if_neg c3, if_neg c4, if_neg c5]) ⟨_, rfl, mkN_ne, by show at_ < at_ + 1; omega, by show at_ + 1 ≤ _; omega, mkN_fr, mkN_up, Or.inl (by show ((lfN 9 at_ 1 0).length : Int) + 1 ≤ 4 * (at_ + 1 - at_); rw [lfN_len]; omega), fun _ => ⟨rfl, rfl⟩⟩
theorem px_body {n : Nat} (hT : tkOK T) (ih : PxA T n) {at_ : Int} (h0 : 0 ≤ at_) (hl : at_ ≤ (T.length : Int)) (hn : ((T.length : Int) - at_).toNat < n + 1) (ne : Int) : Px T 2 ne [] at_ (okB T at_) := by
  by_cases c : istart T at_
  · obtain ⟨f, r, e, hr⟩ := px_item hT ih h0 (istart_lt c).2 hn ne
    refine ⟨f + 1, r, ?_, Or.inl ⟨c, hr⟩⟩
    unfold P
    simp only
    rw [if_pos (show (srt T at_ = 0 ∧ sgn T at_ ≠ 2) ∨ sgn T at_ = 123 ∨ sgn T at_ = 59 from c)]
    exact e
  · refine ⟨1, ([lfN 17 at_ 0 0], at_), ?_, Or.inr ⟨c, rfl⟩⟩
    unfold P
    simp only
    rw [if_neg (show ¬ ((srt T at_ = 0 ∧ sgn T at_ ≠ 2) ∨ sgn T at_ = 123 ∨ sgn T at_ = 59) from c)]
theorem px_items {n : Nat} (hT : tkOK T) (ih : PxA T n) {at_ : Int} (h0 : 0 ≤ at_) (hl : at_ ≤ (T.length : Int)) (hn : ((T.length : Int) - at_).toNat < n + 1) (ne : Int) (le : List zN) : Px T 0 ne le at_ (okS T at_) := by
  by_cases c : ¬ at_ < (T.length : Int) ∨ (le ≠ [] ∧ sgn T at_ = 125)
  · exact px_ret (r := ([], at_)) (by unfold P; simp only; rw [if_pos c]) ⟨Int.le_refl _, hl, by show (0 : Int) + 0 ≤ 4 * (at_ - at_) + 1; omega, fun _ => by show (0 : Int) + 0 ≤ 4 * (at_ - at_); omega, rfl, by show (0 : Int) ≤ at_ - at_; omega⟩
  · have hlt : at_ < (T.length : Int) := by omega
    obtain ⟨f, r, e, τ, e1, e2, e3, e4, e5, e6, e7, e8⟩ := px_item hT ih h0 hlt hn ne
    obtain ⟨f2, r2, q, q1, q2, q3, q4, q5, q6⟩ := (ih r.2 (by omega) e4 (by omega)).2.2.2.2.2.2.2.2 ne le
    refine ⟨max f f2 + 1, (r.1 ++ r2.1, r2.2), ?_, by show at_ ≤ r2.2; omega, q2, ?_, fun hs => ?_, ?_, ?_⟩
    · unfold P
      simp only
      rw [if_neg c, P_le T e (Nat.le_max_left _ _)]
      show (P T (max f f2) 0 ne le r.2).bind _ = _
      rw [P_le T q (Nat.le_max_right _ _)]
      rfl
    · show ((r.1 ++ r2.1).flatten.length : Int) + ((r.1 ++ r2.1).length : Int) ≤ 4 * (r2.2 - at_) + 1
      rw [e1]
      simp only [List.flatten_append, List.flatten_cons, List.flatten_nil, List.append_nil, List.length_append, List.length_cons, List.length_nil]
      rcases e7 with h | ⟨h, hs⟩
      · omega
      · have := q4 hs
        omega
    · obtain ⟨w1, w2⟩ := e8 hs
      show ((r.1 ++ r2.1).flatten.length : Int) + ((r.1 ++ r2.1).length : Int) ≤ 4 * (r2.2 - at_)
      rw [e1]
      simp only [List.flatten_append, List.flatten_cons, List.flatten_nil, List.append_nil, List.length_append, List.length_cons, List.length_nil]
      omega
    · show runI at_ (r.1 ++ r2.1) r2.2
      rw [e1]
      exact ⟨e2, e5, by rw [e6]; exact q5⟩
    · show ((r.1 ++ r2.1).length : Int) ≤ r2.2 - at_
      rw [e1]
      simp only [List.length_append, List.length_cons, List.length_nil]
      omega
theorem px_all (hT : tkOK T) : ∀ n, PxA T n
  | 0 => fun at_ _ _ h => absurd h (Nat.not_lt_zero _)
  | n + 1 => by
    have ih := px_all hT n
    intro at_ h0 hl hn
    exact ⟨px_expr ih h0 hl hn, px_term ih h0 hl hn, px_part ih h0 hl hn, px_loop2 ih h0 hl hn, px_loop ih h0 hl hn, px_list ih h0 hl hn, fun ne h => px_item hT ih h0 h hn ne, px_body hT ih h0 hl hn, px_items hT ih h0 hl hn⟩
end PE
