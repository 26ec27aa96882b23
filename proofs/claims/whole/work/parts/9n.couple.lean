/-! TWO STATES THAT AGREE on the cells that were made: the one runs as the other -/
def zq (bs : Int → Nat × Nat) (bm : zM) (σ τ : zS) : Prop := σ.1 = τ.1 ∧ σ.2.1 = τ.2.1 ∧ (∀ a, 0 < a → σ.2.2.1 a = τ.2.2.1 a) ∧ (∀ a, 0 < a → ∀ i, σ.2.2.2 a i = τ.2.2.2 a i) ∧ (∀ a, ¬ 0 < a → τ.2.2.1 a = (99, 0) ∧ σ.2.2.1 a = bs a ∧ ∀ i, σ.2.2.2 a i = bm a i) ∧ (∀ a, (τ.1 : Int) < a → τ.2.2.1 a = (99, 0))
def z_oko (o : zO) : Bool := decide ((o.1 = 15 ∨ o.1 = 16) → ¬ o.2.2.1 = 99)
section CP
variable {bs : Int → Nat × Nat} {bm : zM} {σ τ : zS} {ll st : List zV}
theorem zq_pos {a ci : Int} (h : zq bs bm σ τ) (hk : ((τ.2.2.1 a).1 : Int) = ci) (hc : ¬ ci = 99) : 0 < a := by
  by_cases c : 0 < a
  · exact c
  · rw [(h.2.2.2.2.1 a c).1] at hk
    exact absurd hk.symm hc
theorem zq_upd {a i x : Int} (h : zq bs bm σ τ) (ha : 0 < a) : zq bs bm (σ.1, σ.2.1, σ.2.2.1, z_upd σ.2.2.2 a i x) (τ.1, τ.2.1, τ.2.2.1, z_upd τ.2.2.2 a i x) := by
  refine ⟨h.1, h.2.1, h.2.2.1, fun b hb j => ?_, fun b hb => ⟨(h.2.2.2.2.1 b hb).1, (h.2.2.2.2.1 b hb).2.1, fun j => ?_⟩, h.2.2.2.2.2⟩
  · show (if _ then _ else _) = (if _ then _ else _)
    rw [h.2.2.2.1 b hb j]
  · show (if b = a ∧ j = i then x else σ.2.2.2 b j) = _
    rw [if_neg (fun z => hb (by rw [z.1]; exact ha))]
    exact (h.2.2.2.2.1 b hb).2.2 j
theorem zq_new {k w : Nat} (h : zq bs bm σ τ) : zq bs bm (σ.1 + 1, σ.2.1 + w, z_shu σ.2.2.1 ((σ.1 : Int) + 1) (k, w), fun a i => if a = (σ.1 : Int) + 1 then 0 else σ.2.2.2 a i) (τ.1 + 1, τ.2.1 + w, z_shu τ.2.2.1 ((τ.1 : Int) + 1) (k, w), fun a i => if a = (τ.1 : Int) + 1 then 0 else τ.2.2.2 a i) := by
  have e := h.1
  refine ⟨by show σ.1 + 1 = τ.1 + 1; rw [e], by show σ.2.1 + w = τ.2.1 + w; rw [h.2.1], fun b hb => ?_, fun b hb j => ?_, fun b hb => ⟨?_, ?_, fun j => ?_⟩, fun b hb => ?_⟩
  · show (if _ then _ else _) = (if _ then _ else _)
    rw [e, h.2.2.1 b hb]
  · show (if _ then _ else _) = (if _ then _ else _)
    rw [e, h.2.2.2.1 b hb j]
  · show (if b = (τ.1 : Int) + 1 then _ else τ.2.2.1 b) = _
    rw [if_neg (by omega)]
    exact (h.2.2.2.2.1 b hb).1
  · show (if b = (σ.1 : Int) + 1 then _ else σ.2.2.1 b) = _
    rw [if_neg (by omega)]
    exact (h.2.2.2.2.1 b hb).2.1
  · show (if b = (σ.1 : Int) + 1 then 0 else σ.2.2.2 b j) = _
    rw [if_neg (by omega)]
    exact (h.2.2.2.2.1 b hb).2.2 j
  · have hb : ((τ.1 + 1 : Nat) : Int) < b := hb
    show (if b = (τ.1 : Int) + 1 then _ else τ.2.2.1 b) = _
    rw [if_neg (by omega)]
    exact h.2.2.2.2.2 b (by omega)
theorem zq_stp {o : zO} {pc' : Nat} {ll' st' : List zV} {τ' : zS} (ho : z_oko o = true) (h : zq bs bm σ τ) (hz : z_stp o ll st τ = some (pc', ll', st', τ')) : ∃ σ', z_stp o ll st σ = some (pc', ll', st', σ') ∧ zq bs bm σ' τ' := by
  unfold z_stp at hz ⊢
  split at hz
  · cases hz; exact ⟨σ, rfl, h⟩
  · split at hz
    · rename_i e
      split at hz
      · rename_i c; cases hz; exact ⟨σ, by simp only [e, if_pos c], h⟩
      · cases hz
    · cases hz
  · split at hz
    · rename_i c; cases hz; exact ⟨σ, by simp only [if_pos c], h⟩
    · cases hz
  · split at hz
    · rename_i e
      split at hz
      · rename_i c; cases hz; exact ⟨σ, by simp only [e, if_pos c], h⟩
      · cases hz
    · cases hz
  · split at hz
    · rename_i e; cases hz; exact ⟨σ, by simp only [e], h⟩
    · cases hz
  · split at hz
    · rename_i c; cases hz; exact ⟨σ, by simp only [if_pos c], h⟩
    · rename_i c
      split at hz
      · rename_i e; cases hz; exact ⟨σ, by simp only [if_neg c, e], h⟩
      · cases hz
  · split at hz
    · rename_i c; cases hz; exact ⟨σ, by simp only [if_pos c], h⟩
    · rename_i c
      split at hz
      · rename_i c2; cases hz; exact ⟨σ, by simp only [if_neg c, if_pos c2], h⟩
      · cases hz
  · split at hz
    · rename_i c; cases hz; exact ⟨σ, by simp only [if_pos c], h⟩
    · cases hz
  · split at hz
    · rename_i c; cases hz; exact ⟨σ, by simp only [if_pos c], h⟩
    · cases hz
  · split at hz
    · rename_i c; cases hz; exact ⟨σ, by simp only [if_pos c], h⟩
    · cases hz
  · cases hz; exact ⟨σ, rfl, h⟩
  · cases hz; exact ⟨σ, rfl, h⟩
  · cases hz; exact ⟨σ, rfl, h⟩
  · cases hz; exact ⟨σ, rfl, h⟩
  · cases hz; exact ⟨σ, rfl, h⟩
  · split at hz
    · rename_i c
      cases hz
      have hp := zq_pos h c (of_decide_eq_true ho (Or.inl rfl))
      exact ⟨σ, by simp only [h.2.2.1 _ hp, if_pos c, h.2.2.2.1 _ hp], h⟩
    · cases hz
  · split at hz
    · rename_i c
      cases hz
      have hp := zq_pos h c.1 (of_decide_eq_true ho (Or.inr rfl))
      exact ⟨_, by simp only [h.2.2.1 _ hp, if_pos c], zq_upd h hp⟩
    · cases hz
  · split at hz
    · rename_i n kd g1 g2 g3 i a st c
      cases hz
      have hp : 0 < a := by
        by_cases c1 : 0 < a
        · exact c1
        · rw [(h.2.2.2.2.1 a c1).1] at c; exact absurd c.2 (by show ¬ (0 ≤ i ∧ i < ((0 : Nat) : Int)); omega)
      exact ⟨σ, by simp only [h.2.2.1 _ hp, if_pos c, h.2.2.2.1 _ hp], h⟩
    · cases hz
  · split at hz
    · rename_i n kd g1 g2 g3 u x i a st c
      cases hz
      have hp := c.2.1
      have hc : ((σ.2.2.1 a).1 : Int) = kd ∧ 0 < a ∧ 0 ≤ i ∧ i < ((σ.2.2.1 a).2 : Int) ∧ u = z_st (z_mt kd.toNat 0) ∧ z_fitv (z_mt kd.toNat 0) x = true ∧ (kd = 12 → (σ.2.2.1 x).1 = 0) := by
        rw [h.2.2.1 _ hp]
        refine ⟨c.1, c.2.1, c.2.2.1, c.2.2.2.1, c.2.2.2.2.1, c.2.2.2.2.2.1, fun z => ?_⟩
        have q := c.2.2.2.2.2.2 z
        by_cases cx : 0 < x
        · rw [h.2.2.1 _ cx]; exact q
        · rw [(h.2.2.2.2.1 x cx).1] at q; exact absurd q (by decide)
      exact ⟨_, by simp only [if_pos hc], zq_upd h hp⟩
    · cases hz
  · split at hz
    · rename_i n g1 g2 g3 g4 a st c
      cases hz
      have hp : 0 < a := by
        by_cases c1 : 0 < a
        · exact c1
        · rw [(h.2.2.2.2.1 a c1).1] at c; exact absurd c (by decide)
      exact ⟨σ, by simp only [h.2.2.1 _ hp, if_pos c], h⟩
    · cases hz
  · cases hz
    exact ⟨_, by rw [← h.1], zq_new h⟩
  · split at hz
    · rename_i c
      cases hz
      exact ⟨_, by rw [if_pos c, ← h.1], zq_new h⟩
    · cases hz
  · split at hz
    · rename_i c
      cases hz
      exact ⟨_, by rw [if_pos c, ← h.1], zq_new h⟩
    · cases hz
  · split at hz
    · rename_i c
      cases hz
      exact ⟨σ, by simp only [h.2.2.1 _ c.1, if_pos c], h⟩
    · cases hz
  · cases hz; exact ⟨σ, rfl, h⟩
  · split at hz
    · cases hz
    · rename_i c
      split at hz
      · rename_i c2; cases hz; exact ⟨σ, by simp only [if_neg c, if_pos c2], h⟩
      · rename_i c2; cases hz; exact ⟨σ, by simp only [if_neg c, if_neg c2], h⟩
  · split at hz
    · rename_i c; cases hz; exact ⟨σ, by simp only [if_pos c], h⟩
    · cases hz
  · split at hz
    · rename_i c; cases hz; exact ⟨σ, by simp only [if_pos c], h⟩
    · cases hz
  · split at hz
    · rename_i c; cases hz; exact ⟨σ, by simp only [if_pos c], h⟩
    · cases hz
  · cases hz
theorem zq_rcv {kd : Int} {as : List zV} (h : zq bs bm σ τ) (hr : z_rcv τ kd as = true) : z_rcv σ kd as = true := by
  unfold z_rcv at hr ⊢
  split at hr
  · rename_i c; rw [if_pos c]
  · rename_i c
    rw [if_neg c]
    split at hr
    · rename_i a l
      have hr := of_decide_eq_true hr
      exact decide_eq_true (by rw [h.2.2.1 _ hr.1]; exact hr)
    · cases hr
end CP
theorem zq_run {cd : Nat → Nat → zO} {ml : Nat → Nat} {bs : Int → Nat × Nat} {bm : zM} (ho : ∀ m pc, z_oko (cd m pc) = true) : ∀ (f d m pc : Nat) (ll st : List zV) (σ τ : zS) (rv : Option zV) (τ' : zS), zq bs bm σ τ → z_ex cd ml f d m pc ll st τ = some (rv, τ') → ∃ σ', z_ex cd ml f d m pc ll st σ = some (rv, σ') ∧ zq bs bm σ' τ'
  | 0, _, _, _, _, _, _, _, _, _, _, h => by simp [z_ex] at h
  | f + 1, d, m, pc, ll, st, σ, τ, rv, τ', hq, h => by
    have hom := ho m pc
    unfold z_ex at h ⊢
    generalize cd m pc = o at h hom ⊢
    split at h
    · rename_i n k na kd q
      split at h
      · cases h
      · rename_i d'
        split at h
        · rename_i hc
          split at h
          · rename_i rv1 τ1 h1
            obtain ⟨σ1, e1, q1⟩ := zq_run ho f _ _ _ _ _ σ τ _ _ hq h1
            obtain ⟨σ2, e2, q2⟩ := zq_run ho f _ _ _ _ _ σ1 τ1 _ _ q1 h
            refine ⟨σ2, ?_, q2⟩
            have hc' := hc
            obtain ⟨c1, c2, c3, c4, c5⟩ := hc'
            simp only [if_pos (show _ ∧ _ ∧ _ ∧ _ ∧ _ from ⟨c1, c2, zq_rcv hq c3, c4, c5⟩), e1, e2]
          · cases h
        · cases h
    · split at h
      · rename_i e; cases h; exact ⟨σ, by simp only [e], hq⟩
      · cases h
    · rename_i n25 n26
      split at h
      · rename_i h30
        split at h
        · rename_i pc' ll' st' τ1 hz
          obtain ⟨σ1, e1, q1⟩ := zq_stp hom hq hz
          obtain ⟨σ2, e2, q2⟩ := zq_run ho f _ _ _ _ _ σ1 τ1 _ _ q1 h
          refine ⟨σ2, ?_, q2⟩
          rw [if_pos h30, e1]
          exact e2
        · cases h
      · cases h
