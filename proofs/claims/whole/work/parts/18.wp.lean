/-! WALKING THE SMALL MACHINE: what a run comes to -/
def z_wp (d m pc : Nat) (ll st : List zV) (σ : zS) (Q : Option zV → zS → Prop) : Prop := ∃ (f : Nat) (rv : Option zV) (σ' : zS), z_ex z_cd z_ml f d m pc ll st σ = some (rv, σ') ∧ Q rv σ'
def z_call (d m : Nat) (vs : List zV) (σ : zS) (Q : Option zV → zS → Prop) : Prop := z_wp d m 0 (z_ent (z_ml m) vs) [] σ Q
theorem z_ex_fuel {cd : Nat → Nat → zO} {ml : Nat → Nat} : ∀ (f f' d k pc : Nat) (ll st : List zV) (σ : zS) (r : Option zV × zS), f ≤ f' → z_ex cd ml f d k pc ll st σ = some r → z_ex cd ml f' d k pc ll st σ = some r
  | 0, _, _, _, _, _, _, _, _, _, h => by simp [z_ex] at h
  | f + 1, 0, _, _, _, _, _, _, _, hf, _ => absurd hf (by omega)
  | f + 1, f' + 1, d, k, pc, ll, st, σ, r, hf, h => by
    unfold z_ex at h ⊢
    split at h
    · split at h
      · cases h
      · split at h
        · rename_i hc
          split at h
          · rename_i h1
            rw [if_pos hc, z_ex_fuel f f' _ _ _ _ _ _ _ (by omega) h1]
            exact z_ex_fuel f f' _ _ _ _ _ _ _ (by omega) h
          · cases h
        · cases h
    · exact h
    · split at h
      · rename_i h30
        rw [if_pos h30]
        split at h
        · exact z_ex_fuel f f' _ _ _ _ _ _ _ (by omega) h
        · cases h
      · cases h
theorem z_ex_depth {cd : Nat → Nat → zO} {ml : Nat → Nat} : ∀ (f d d' k pc : Nat) (ll st : List zV) (σ : zS) (r : Option zV × zS), d ≤ d' → z_ex cd ml f d k pc ll st σ = some r → z_ex cd ml f d' k pc ll st σ = some r
  | 0, _, _, _, _, _, _, _, _, _, h => by simp [z_ex] at h
  | f + 1, d, d', k, pc, ll, st, σ, r, hd, h => by
    unfold z_ex at h ⊢
    split at h
    · split at h
      · cases h
      · rename_i d0
        obtain ⟨d1, rfl⟩ : ∃ d1, d' = d1 + 1 := ⟨d' - 1, by omega⟩
        try simp only
        split at h
        · rename_i hc
          split at h
          · rename_i h1
            rw [if_pos hc, z_ex_depth f _ d1 _ _ _ _ _ _ (by omega) h1]
            exact z_ex_depth f _ (d1 + 1) _ _ _ _ _ _ hd h
          · cases h
        · cases h
    · exact h
    · split at h
      · rename_i h30
        rw [if_pos (h30.imp id (fun z => Nat.le_trans z hd))]
        split at h
        · exact z_ex_depth f _ d' _ _ _ _ _ _ hd h
        · cases h
      · cases h
theorem z_wp_d {d d' m pc : Nat} {ll st : List zV} {σ : zS} {Q : Option zV → zS → Prop} (hd : d ≤ d') (h : z_wp d m pc ll st σ Q) : z_wp d' m pc ll st σ Q := by
  obtain ⟨f, rv, σ', h1, h2⟩ := h
  exact ⟨f, rv, σ', z_ex_depth f d d' _ _ _ _ _ _ hd h1, h2⟩
theorem z_call_d {d d' m : Nat} {vs : List zV} {σ : zS} {Q : Option zV → zS → Prop} (hd : d ≤ d') (h : z_call d m vs σ Q) : z_call d' m vs σ Q := z_wp_d hd h
theorem z_wp_mono {d m pc : Nat} {ll st : List zV} {σ : zS} {Q Q' : Option zV → zS → Prop} (h : z_wp d m pc ll st σ Q) (hq : ∀ rv σ', Q rv σ' → Q' rv σ') : z_wp d m pc ll st σ Q' := by
  obtain ⟨f, rv, σ', h1, h2⟩ := h
  exact ⟨f, rv, σ', h1, hq rv σ' h2⟩
theorem z_call_mono {d m : Nat} {vs : List zV} {σ : zS} {Q Q' : Option zV → zS → Prop} (h : z_call d m vs σ Q) (hq : ∀ rv σ', Q rv σ' → Q' rv σ') : z_call d m vs σ Q' := z_wp_mono h hq
section XW
variable {d m pc n : Nat} {ll st : List zV} {σ : zS} {Q : Option zV → zS → Prop} {g g1 g2 g3 : Int} {q : List (Int × Int)}
theorem x_st {o : zO} {pc' : Nat} {ll' st' : List zV} {σ' : zS} (hc : z_cd m pc = o) (h : z_stp o ll st σ = some (pc', ll', st', σ')) (k : z_wp d m pc' ll' st' σ' Q) (h30 : o.1 < 30 ∨ 5 ≤ d := by exact Or.inl (Nat.le_of_ble_eq_true rfl)) : z_wp d m pc ll st σ Q := by
  obtain ⟨f, rv, σ2, h1, h2⟩ := k
  refine ⟨f + 1, rv, σ2, ?_, h2⟩
  unfold z_ex
  rw [hc]
  split
  · rename_i e
    simp [z_stp] at h
  · simp [z_stp] at h
  · rw [if_pos h30, h]
    exact h1
theorem x_call {c na kd : Int} (hc : z_cd m pc = (25, n, c, na, kd, q)) (h1 : na.toNat ≤ st.length ∧ z_cs (st.drop na.toNat) ≤ 8 ∧ z_rcv σ kd (st.take na.toNat).reverse = true ∧ (z_sl (st.take na.toNat).reverse).length ≤ z_ml c.toNat ∧ (st.take na.toNat).all (fun v => decide (v.1 < 3)) = true)
    (k : z_call d c.toNat (st.take na.toNat).reverse σ (fun rv σ1 => z_wp (d + 1) m n ll (rv.toList ++ st.drop na.toNat) σ1 Q)) : z_wp (d + 1) m pc ll st σ Q := by
  obtain ⟨f, rv, σ1, e1, f2, rv2, σ2, e2, hq⟩ := k
  refine ⟨max f f2 + 1, rv2, σ2, ?_, hq⟩
  unfold z_ex
  rw [hc]
  simp only
  rw [if_pos h1, z_ex_fuel f (max f f2) _ _ _ _ _ _ _ (Nat.le_max_left _ _) e1]
  exact z_ex_fuel f2 (max f f2) _ _ _ _ _ _ _ (Nat.le_max_right _ _) e2
theorem x_ret {t : Int} {rv : Option zV} (hc : z_cd m pc = (26, n, t, g, g1, q)) (h : z_ret t st = some rv) (k : Q rv σ) : z_wp d m pc ll st σ Q := by
  refine ⟨1, rv, σ, ?_, k⟩
  unfold z_ex
  rw [hc]
  simp only [h]
theorem x_push {x : Int} (hc : z_cd m pc = (0, n, x, g, g1, q)) (k : z_wp d m n ll ((0, x) :: st) σ Q) : z_wp d m pc ll st σ Q := x_st hc rfl k
theorem x_load {i t : Int} {v : zV} (hc : z_cd m pc = (1, n, i, t, g, q)) (hv : ll[i.toNat]? = some v) (ht : (v.1 : Int) = t ∧ v.1 < 3) (k : z_wp d m n ll (v :: st) σ Q) : z_wp d m pc ll st σ Q := x_st hc (by simp only [z_stp, hv, if_pos ht]) k
theorem x_store {i t : Int} {v : zV} {ll' : List zV} (hc : z_cd m pc = (2, n, i, t, g, q)) (ht : (v.1 : Int) = t ∧ v.1 < 3 ∧ i.toNat + v.1 % 2 < ll.length ∧ z_pre ll i.toNat = true) (hl : z_set ll i.toNat v = ll') (k : z_wp d m n ll' st σ Q) : z_wp d m pc ll (v :: st) σ Q := x_st hc (by simp only [z_stp, if_pos ht, hl]) k
theorem x_iinc {i kc x : Int} {ll' : List zV} (hc : z_cd m pc = (3, n, i, kc, g, q)) (hv : ll[i.toNat]? = some (0, x)) (hp : z_pre ll i.toNat = true) (hl : ll.set i.toNat (0, z_w (x + kc)) = ll') (k : z_wp d m n ll' st σ Q) : z_wp d m pc ll st σ Q := x_st hc (by simp only [z_stp, hv, if_pos hp, hl]) k
theorem x_alu {kc x y z : Int} (hc : z_cd m pc = (4, n, kc, g, g1, q)) (hz : z_alu kc x y = some z) (k : z_wp d m n ll ((0, z) :: st) σ Q) : z_wp d m pc ll ((0, y) :: (0, x) :: st) σ Q := x_st hc (by simp only [z_stp, hz]) k
theorem x_add {x y : Int} (hc : z_cd m pc = (4, n, 0, g, g1, q)) (k : z_wp d m n ll ((0, z_w (x + y)) :: st) σ Q) : z_wp d m pc ll ((0, y) :: (0, x) :: st) σ Q := x_alu hc rfl k
theorem x_sub {x y : Int} (hc : z_cd m pc = (4, n, 1, g, g1, q)) (k : z_wp d m n ll ((0, z_w (x - y)) :: st) σ Q) : z_wp d m pc ll ((0, y) :: (0, x) :: st) σ Q := x_alu hc rfl k
theorem x_mul {x y : Int} (hc : z_cd m pc = (4, n, 2, g, g1, q)) (k : z_wp d m n ll ((0, z_w (x * y)) :: st) σ Q) : z_wp d m pc ll ((0, y) :: (0, x) :: st) σ Q := x_alu hc rfl k
theorem x_lalu {kc x y z : Int} (hc : z_cd m pc = (5, n, kc, g, g1, q)) (h4 : ¬ kc = 4) (hz : z_lalu kc x y = some z) (k : z_wp d m n ll ((1, z) :: st) σ Q) : z_wp d m pc ll ((1, y) :: (1, x) :: st) σ Q := x_st hc (by simp only [z_stp, if_neg h4, hz]) k
theorem x_lcmp {x y : Int} (hc : z_cd m pc = (5, n, 4, g, g1, q)) (k : z_wp d m n ll ((0, z_cmp x y) :: st) σ Q) : z_wp d m pc ll ((1, y) :: (1, x) :: st) σ Q := x_st hc rfl k
theorem x_i2l {x : Int} (hc : z_cd m pc = (6, n, 0, g, g1, q)) (k : z_wp d m n ll ((1, x) :: st) σ Q) : z_wp d m pc ll ((0, x) :: st) σ Q := x_st hc rfl k
theorem x_l2i {x : Int} (hc : z_cd m pc = (6, n, 1, g, g1, q)) (k : z_wp d m n ll ((0, z_w x) :: st) σ Q) : z_wp d m pc ll ((1, x) :: st) σ Q := x_st hc rfl k
theorem x_dup {v : zV} (hc : z_cd m pc = (7, n, g, g1, g2, q)) (hv : v.1 = 0 ∨ v.1 = 2) (k : z_wp d m n ll (v :: v :: st) σ Q) : z_wp d m pc ll (v :: st) σ Q := x_st hc (by simp only [z_stp, if_pos hv]) k
theorem x_pop {v : zV} (hc : z_cd m pc = (8, n, g, g1, g2, q)) (hv : v.1 = 0 ∨ v.1 = 2) (k : z_wp d m n ll st σ Q) : z_wp d m pc ll (v :: st) σ Q := x_st hc (by simp only [z_stp, if_pos hv]) k
theorem x_dup2 {v w : zV} (hc : z_cd m pc = (9, n, g, g1, g2, q)) (hv : (v.1 = 0 ∨ v.1 = 2) ∧ (w.1 = 0 ∨ w.1 = 2)) (k : z_wp d m n ll (v :: w :: v :: w :: st) σ Q) : z_wp d m pc ll (v :: w :: st) σ Q := x_st hc (by simp only [z_stp, if_pos hv]) k
theorem x_goto {t : Int} (hc : z_cd m pc = (12, n, t, g, g1, q)) (k : z_wp d m t.toNat ll st σ Q) : z_wp d m pc ll st σ Q := x_st hc rfl k
theorem x_ifeq {t x : Int} (hc : z_cd m pc = (10, n, 0, t, g, q)) (k1 : x = 0 → z_wp d m t.toNat ll st σ Q) (k2 : ¬ x = 0 → z_wp d m n ll st σ Q) : z_wp d m pc ll ((0, x) :: st) σ Q := by
  by_cases h : x = 0
  · exact x_st hc (show some (if decide (x = 0) = true then t.toNat else n, ll, st, σ) = some (t.toNat, ll, st, σ) by rw [if_pos (decide_eq_true h)]) (k1 h)
  · exact x_st hc (show some (if decide (x = 0) = true then t.toNat else n, ll, st, σ) = some (n, ll, st, σ) by rw [if_neg (by simpa using h)]) (k2 h)
theorem x_ifne {t x : Int} (hc : z_cd m pc = (10, n, 1, t, g, q)) (k1 : ¬ x = 0 → z_wp d m t.toNat ll st σ Q) (k2 : x = 0 → z_wp d m n ll st σ Q) : z_wp d m pc ll ((0, x) :: st) σ Q := by
  by_cases h : x = 0
  · exact x_st hc (show some (if decide (¬ x = 0) = true then t.toNat else n, ll, st, σ) = some (n, ll, st, σ) by rw [if_neg (by simpa using h)]) (k2 h)
  · exact x_st hc (show some (if decide (¬ x = 0) = true then t.toNat else n, ll, st, σ) = some (t.toNat, ll, st, σ) by rw [if_pos (decide_eq_true h)]) (k1 h)
theorem x_iflt {t x : Int} (hc : z_cd m pc = (10, n, 2, t, g, q)) (k1 : x < 0 → z_wp d m t.toNat ll st σ Q) (k2 : 0 ≤ x → z_wp d m n ll st σ Q) : z_wp d m pc ll ((0, x) :: st) σ Q := by
  by_cases h : x < 0
  · exact x_st hc (show some (if decide (x < 0) = true then t.toNat else n, ll, st, σ) = some (t.toNat, ll, st, σ) by rw [if_pos (decide_eq_true h)]) (k1 h)
  · exact x_st hc (show some (if decide (x < 0) = true then t.toNat else n, ll, st, σ) = some (n, ll, st, σ) by rw [if_neg (by simpa using h)]) (k2 (by omega))
theorem x_ifge {t x : Int} (hc : z_cd m pc = (10, n, 3, t, g, q)) (k1 : 0 ≤ x → z_wp d m t.toNat ll st σ Q) (k2 : x < 0 → z_wp d m n ll st σ Q) : z_wp d m pc ll ((0, x) :: st) σ Q := by
  by_cases h : 0 ≤ x
  · exact x_st hc (show some (if decide (0 ≤ x) = true then t.toNat else n, ll, st, σ) = some (t.toNat, ll, st, σ) by rw [if_pos (decide_eq_true h)]) (k1 h)
  · exact x_st hc (show some (if decide (0 ≤ x) = true then t.toNat else n, ll, st, σ) = some (n, ll, st, σ) by rw [if_neg (by simpa using h)]) (k2 (by omega))
theorem x_ifgt {t x : Int} (hc : z_cd m pc = (10, n, 4, t, g, q)) (k1 : 0 < x → z_wp d m t.toNat ll st σ Q) (k2 : x ≤ 0 → z_wp d m n ll st σ Q) : z_wp d m pc ll ((0, x) :: st) σ Q := by
  by_cases h : 0 < x
  · exact x_st hc (show some (if decide (0 < x) = true then t.toNat else n, ll, st, σ) = some (t.toNat, ll, st, σ) by rw [if_pos (decide_eq_true h)]) (k1 h)
  · exact x_st hc (show some (if decide (0 < x) = true then t.toNat else n, ll, st, σ) = some (n, ll, st, σ) by rw [if_neg (by simpa using h)]) (k2 (by omega))
theorem x_ifle {t x : Int} (hc : z_cd m pc = (10, n, 5, t, g, q)) (k1 : x ≤ 0 → z_wp d m t.toNat ll st σ Q) (k2 : 0 < x → z_wp d m n ll st σ Q) : z_wp d m pc ll ((0, x) :: st) σ Q := by
  by_cases h : x ≤ 0
  · exact x_st hc (show some (if decide (x ≤ 0) = true then t.toNat else n, ll, st, σ) = some (t.toNat, ll, st, σ) by rw [if_pos (decide_eq_true h)]) (k1 h)
  · exact x_st hc (show some (if decide (x ≤ 0) = true then t.toNat else n, ll, st, σ) = some (n, ll, st, σ) by rw [if_neg (by simpa using h)]) (k2 (by omega))
theorem x_ieq {t x y : Int} (hc : z_cd m pc = (11, n, 0, t, g, q)) (k1 : x = y → z_wp d m t.toNat ll st σ Q) (k2 : ¬ x = y → z_wp d m n ll st σ Q) : z_wp d m pc ll ((0, y) :: (0, x) :: st) σ Q := by
  by_cases h : x = y
  · exact x_st hc (show some (if decide (x = y) = true then t.toNat else n, ll, st, σ) = some (t.toNat, ll, st, σ) by rw [if_pos (decide_eq_true h)]) (k1 h)
  · exact x_st hc (show some (if decide (x = y) = true then t.toNat else n, ll, st, σ) = some (n, ll, st, σ) by rw [if_neg (by simpa using h)]) (k2 h)
theorem x_ine {t x y : Int} (hc : z_cd m pc = (11, n, 1, t, g, q)) (k1 : ¬ x = y → z_wp d m t.toNat ll st σ Q) (k2 : x = y → z_wp d m n ll st σ Q) : z_wp d m pc ll ((0, y) :: (0, x) :: st) σ Q := by
  by_cases h : x = y
  · exact x_st hc (show some (if decide (¬ x = y) = true then t.toNat else n, ll, st, σ) = some (n, ll, st, σ) by rw [if_neg (by simpa using h)]) (k2 h)
  · exact x_st hc (show some (if decide (¬ x = y) = true then t.toNat else n, ll, st, σ) = some (t.toNat, ll, st, σ) by rw [if_pos (decide_eq_true h)]) (k1 h)
theorem x_ilt {t x y : Int} (hc : z_cd m pc = (11, n, 2, t, g, q)) (k1 : x < y → z_wp d m t.toNat ll st σ Q) (k2 : y ≤ x → z_wp d m n ll st σ Q) : z_wp d m pc ll ((0, y) :: (0, x) :: st) σ Q := by
  by_cases h : x < y
  · exact x_st hc (show some (if decide (x < y) = true then t.toNat else n, ll, st, σ) = some (t.toNat, ll, st, σ) by rw [if_pos (decide_eq_true h)]) (k1 h)
  · exact x_st hc (show some (if decide (x < y) = true then t.toNat else n, ll, st, σ) = some (n, ll, st, σ) by rw [if_neg (by simpa using h)]) (k2 (by omega))
theorem x_ige {t x y : Int} (hc : z_cd m pc = (11, n, 3, t, g, q)) (k1 : y ≤ x → z_wp d m t.toNat ll st σ Q) (k2 : x < y → z_wp d m n ll st σ Q) : z_wp d m pc ll ((0, y) :: (0, x) :: st) σ Q := by
  by_cases h : y ≤ x
  · exact x_st hc (show some (if decide (y ≤ x) = true then t.toNat else n, ll, st, σ) = some (t.toNat, ll, st, σ) by rw [if_pos (decide_eq_true h)]) (k1 h)
  · exact x_st hc (show some (if decide (y ≤ x) = true then t.toNat else n, ll, st, σ) = some (n, ll, st, σ) by rw [if_neg (by simpa using h)]) (k2 (by omega))
theorem x_igt {t x y : Int} (hc : z_cd m pc = (11, n, 4, t, g, q)) (k1 : y < x → z_wp d m t.toNat ll st σ Q) (k2 : x ≤ y → z_wp d m n ll st σ Q) : z_wp d m pc ll ((0, y) :: (0, x) :: st) σ Q := by
  by_cases h : y < x
  · exact x_st hc (show some (if decide (y < x) = true then t.toNat else n, ll, st, σ) = some (t.toNat, ll, st, σ) by rw [if_pos (decide_eq_true h)]) (k1 h)
  · exact x_st hc (show some (if decide (y < x) = true then t.toNat else n, ll, st, σ) = some (n, ll, st, σ) by rw [if_neg (by simpa using h)]) (k2 (by omega))
theorem x_ile {t x y : Int} (hc : z_cd m pc = (11, n, 5, t, g, q)) (k1 : x ≤ y → z_wp d m t.toNat ll st σ Q) (k2 : y < x → z_wp d m n ll st σ Q) : z_wp d m pc ll ((0, y) :: (0, x) :: st) σ Q := by
  by_cases h : x ≤ y
  · exact x_st hc (show some (if decide (x ≤ y) = true then t.toNat else n, ll, st, σ) = some (t.toNat, ll, st, σ) by rw [if_pos (decide_eq_true h)]) (k1 h)
  · exact x_st hc (show some (if decide (x ≤ y) = true then t.toNat else n, ll, st, σ) = some (n, ll, st, σ) by rw [if_neg (by simpa using h)]) (k2 (by omega))
theorem x_tsw {dd lo hi x : Int} (hc : z_cd m pc = (13, n, dd, lo, hi, q)) (k : z_wp d m (z_sw dd x q).toNat ll st σ Q) : z_wp d m pc ll ((0, x) :: st) σ Q := x_st hc rfl k
theorem x_lsw {dd x : Int} (hc : z_cd m pc = (14, n, dd, g, g1, q)) (k : z_wp d m (z_sw dd x q).toNat ll st σ Q) : z_wp d m pc ll ((0, x) :: st) σ Q := x_st hc rfl k
theorem x_get {nx sl : Nat} {sh : Int → Nat × Nat} {M : zM} {ci k t a : Int} (hc : z_cd m pc = (15, n, ci, k, t, q)) (ha : ((sh a).1 : Int) = ci) (kk : z_wp d m n ll ((z_st t.toNat, M a k) :: st) (nx, sl, sh, M) Q) : z_wp d m pc ll ((2, a) :: st) (nx, sl, sh, M) Q := x_st hc (by simp only [z_stp, if_pos ha]) kk
theorem x_put {nx sl : Nat} {sh : Int → Nat × Nat} {M : zM} {ci k t a x : Int} {u : Nat} (hc : z_cd m pc = (16, n, ci, k, t, q)) (ha : ((sh a).1 : Int) = ci ∧ u = z_st t.toNat ∧ z_fitv t.toNat x = true) (kk : z_wp d m n ll st (nx, sl, sh, z_upd M a k x) Q) : z_wp d m pc ll ((u, x) :: (2, a) :: st) (nx, sl, sh, M) Q := x_st hc (by simp only [z_stp, if_pos ha]) kk
theorem x_ald {nx sl : Nat} {sh : Int → Nat × Nat} {M : zM} {kd a i : Int} (hc : z_cd m pc = (17, n, kd, g, g1, q)) (ha : ((sh a).1 : Int) = kd) (hi : 0 ≤ i ∧ i < ((sh a).2 : Int)) (kk : z_wp d m n ll ((z_st (z_mt kd.toNat 0), M a i) :: st) (nx, sl, sh, M) Q) : z_wp d m pc ll ((0, i) :: (2, a) :: st) (nx, sl, sh, M) Q := x_st hc (by simp only [z_stp, if_pos (show ((sh a).1 : Int) = kd ∧ 0 ≤ i ∧ i < ((sh a).2 : Int) from ⟨ha, hi⟩)]) kk
theorem x_ast {nx sl : Nat} {sh : Int → Nat × Nat} {M : zM} {kd a i x : Int} {u : Nat} (hc : z_cd m pc = (18, n, kd, g, g1, q)) (ha : ((sh a).1 : Int) = kd) (hp : 0 < a) (hi : 0 ≤ i ∧ i < ((sh a).2 : Int)) (hu : u = z_st (z_mt kd.toNat 0) ∧ z_fitv (z_mt kd.toNat 0) x = true ∧ (kd = 12 → (sh x).1 = 0)) (kk : z_wp d m n ll st (nx, sl, sh, z_upd M a i x) Q) : z_wp d m pc ll ((u, x) :: (0, i) :: (2, a) :: st) (nx, sl, sh, M) Q := x_st hc (by simp only [z_stp, if_pos (show ((sh a).1 : Int) = kd ∧ 0 < a ∧ 0 ≤ i ∧ i < ((sh a).2 : Int) ∧ u = z_st (z_mt kd.toNat 0) ∧ z_fitv (z_mt kd.toNat 0) x = true ∧ (kd = 12 → (sh x).1 = 0) from ⟨ha, hp, hi.1, hi.2, hu⟩)]) kk
theorem x_len {nx sl : Nat} {sh : Int → Nat × Nat} {M : zM} {a : Int} (hc : z_cd m pc = (19, n, g, g1, g2, q)) (ha : 9 ≤ (sh a).1 ∧ (sh a).1 ≤ 12) (kk : z_wp d m n ll ((0, ((sh a).2 : Int)) :: st) (nx, sl, sh, M) Q) : z_wp d m pc ll ((2, a) :: st) (nx, sl, sh, M) Q := x_st hc (by simp only [z_stp, if_pos ha]) kk
theorem x_lcon {x : Int} (hc : z_cd m pc = (24, n, x, g, g1, q)) (k : z_wp d m n ll ((1, x) :: st) σ Q) : z_wp d m pc ll st σ Q := x_st hc rfl k
theorem x_max {x y : Int} (hc : z_cd m pc = (28, n, 0, g, g1, q)) (h4 : ¬ 4 < st.length) (k : z_wp d m n ll ((0, if x < y then y else x) :: st) σ Q) : z_wp d m pc ll ((0, y) :: (0, x) :: st) σ Q := x_st hc (by simp only [z_stp, if_neg h4, if_true]) k
theorem x_min {x y : Int} (hc : z_cd m pc = (28, n, 1, g, g1, q)) (h4 : ¬ 4 < st.length) (k : z_wp d m n ll ((0, if y < x then y else x) :: st) σ Q) : z_wp d m pc ll ((0, y) :: (0, x) :: st) σ Q := x_st hc (by simp only [z_stp, if_neg h4, show ¬ (1 : Int) = 0 by decide, if_false]) k
end XW
