/-! THE CELLS behind the two constructors (written by wip/whole/src/layout.py): 1 the class, 77 the reference -/
def z_shL : List (Nat × Nat) := [(7, 11), (0, 3), (9, 300), (0, 3), (9, 300), (0, 3), (9, 300), (1, 3), (12, 13), (0, 3), (9, 300), (0, 3), (9, 300), (0, 3), (9, 300), (0, 3), (9, 300), (0, 3), (9, 300), (0, 3), (9, 300), (0, 3), (9, 300), (0, 3), (9, 300), (0, 3), (9, 300), (0, 3), (9, 300), (0, 3), (9, 300), (0, 3), (9, 300), (0, 3), (9, 300), (4, 7), (9, 300), (9, 300), (9, 300), (9, 300), (9, 300), (5, 12), (9, 1216), (9, 1216), (9, 1216), (9, 1216), (9, 1216), (9, 1216), (9, 1216), (9, 1216), (9, 300), (3, 13), (9, 1216), (9, 1216), (9, 1216), (9, 1216), (9, 1216), (9, 1216), (9, 1216), (9, 1216), (9, 1216), (2, 18), (9, 300), (9, 300), (9, 300), (9, 300), (9, 1216), (9, 1216), (9, 1216), (9, 301), (9, 300), (9, 300), (11, 1216), (9, 18), (6, 3), (10, 1216), (8, 70), (9, 300), (9, 300), (9, 301), (9, 300), (9, 300), (9, 300), (9, 300), (9, 1600), (9, 1600), (9, 1600), (9, 1600), (9, 1600), (9, 1600), (9, 1600), (9, 1600), (9, 100), (9, 100), (9, 100), (9, 100), (9, 300), (9, 20), (9, 20), (9, 1600), (9, 1600), (9, 1600), (9, 1600), (9, 1600), (9, 1600), (9, 1600), (9, 1600), (9, 1600), (9, 1600), (9, 1600), (9, 300), (9, 18), (9, 18), (9, 18), (9, 301), (9, 300), (9, 300), (9, 300), (9, 300), (9, 1600), (9, 1600), (9, 1600), (9, 300), (11, 1600), (9, 3612), (9, 3612), (10, 1600)]
def z_sC (L : Nat) (a : Int) : Nat × Nat := if a = -1 then (9, L) else if 1 ≤ a then z_shL.getD (a.toNat - 1) (99, 0) else (99, 0)
def z_ptL : List (List (Option Int)) := [[], [some 2, some 4, some 6, some 8, some 36, some 42, some 52, some 62, some 75], [some 3], [], [some 5], [], [some 7], [], [some 9], [], [some 11], [], [some 13], [], [some 15], [], [some 17], [], [some 19], [], [some 21], [], [some 23], [], [some 25], [], [some 27], [], [some 29], [], [some 31], [], [some 33], [], [some 35], [], [some 2, some 37, some 38, some 39, some 40, some 41], [], [], [], [], [], [some 2, some 36, some 43, some 44, some 45, some 46, some 47, some 48, some 49, some 50, some 51], [], [], [], [], [], [], [], [], [], [some 36, some 42, some 53, some 54, some 55, some 56, some 57, some 58, some 59, some 60, some 61], [], [], [], [], [], [], [], [], [], [some 36, some 42, some 63, some 64, some 65, some 66, none, some 67, some 68, some 69, some 70, none, some 71, some 72, some 73, some 74], [], [], [], [], [], [], [], [], [], [], [], [], [some 2, some 42, some 76], [], [some 78, some 79, some 80, none, none, none, some 81, some 82, some 83, some 84, none, some 85, some 86, some 87, some 88, some 89, some 90, some 91, some 92, none, some 93, some 94, some 95, some 96, some 97, some 98, some 99, none, none, none, none, none, some 100, some 101, some 102, some 103, some 104, some 105, some 106, some 107, some 108, some 109, some 110, some 111, none, some 112, some 113, some 114, some 115, none, some 116, some 117, some 118, some 119, some 120, some 121, some 122, some 123, some 124, none, none, none, none, some 125, some 126, none, none, none, none, some 127], [], [], [], [], [], [], [], [], [], [], [], [], [], [], [], [], [], [], [], [], [], [], [], [], [], [], [], [], [], [], [], [], [], [], [], [], [], [], [], [], [], [], [], [], [], [], [], [], [], []]
/-- the fields that hold a cell: which one, for good -/
def z_ptr (a k : Int) : Option Int := if 0 ≤ a ∧ 0 ≤ k then (z_ptL.getD a.toNat []).getD k.toNat none else none
def z_FX (M : zM) : Prop := ∀ a k r : Int, z_ptr a k = some r → M a k = r
def z_N0 : Nat := 127
def z_S0 : Nat := 86289
theorem u_eq {M : zM} {a i x : Int} : z_upd M a i x a i = x := by simp [z_upd]
theorem u_n1 {M : zM} {a i x b j : Int} (h : b ≠ a) : z_upd M a i x b j = M b j := by simp [z_upd, h]
theorem u_n2 {M : zM} {a i x b j : Int} (h : j ≠ i) : z_upd M a i x b j = M b j := by simp [z_upd, h]
/-- walking over the cells as they stand behind the constructors: the state is what they hold -/
def v_wp (L d m pc : Nat) (ll st : List zV) (M : zM) (Q : Option zV → zM → Prop) : Prop := z_FX M → z_wp d m pc ll st (z_N0, z_S0, z_sC L, M) (fun rv σ' => ∃ M', σ' = (z_N0, z_S0, z_sC L, M') ∧ z_FX M' ∧ Q rv M')
def v_call (L d m : Nat) (vs : List zV) (M : zM) (Q : Option zV → zM → Prop) : Prop := v_wp L d m 0 (z_ent (z_ml m) vs) [] M Q
theorem z_FX_upd {M : zM} {a k x : Int} (h : z_FX M) (hn : z_ptr a k = none) : z_FX (z_upd M a k x) := by
  intro b j r hr
  unfold z_upd
  split
  · rename_i e
    obtain ⟨rfl, rfl⟩ := e
    rw [hn] at hr
    cases hr
  · exact h b j r hr
section VW
variable {L d m pc n : Nat} {ll st : List zV} {M : zM} {Q : Option zV → zM → Prop} {g g1 g2 g3 : Int} {q : List (Int × Int)}
theorem v_mono {Q' : Option zV → zM → Prop} (h : v_wp L d m pc ll st M Q) (hq : ∀ rv M', z_FX M' → Q rv M' → Q' rv M') : v_wp L d m pc ll st M Q' := fun hF => z_wp_mono (h hF) (fun rv _ ⟨M', e, hF', hQ⟩ => ⟨M', e, hF', hq rv M' hF' hQ⟩)
theorem v_depth {d' : Nat} (hd : d ≤ d') (h : v_wp L d m pc ll st M Q) : v_wp L d' m pc ll st M Q := fun hF => z_wp_d hd (h hF)
theorem vc_mono {vs : List zV} {Q' : Option zV → zM → Prop} (h : v_call L d m vs M Q) (hq : ∀ rv M', z_FX M' → Q rv M' → Q' rv M') : v_call L d m vs M Q' := v_mono h hq
theorem vc_depth {d' : Nat} {vs : List zV} (hd : d ≤ d') (h : v_call L d m vs M Q) : v_call L d' m vs M Q := v_depth hd h
/-- the pointers as they stand -/
theorem v_fx (k : z_FX M → v_wp L d m pc ll st M Q) : v_wp L d m pc ll st M Q := fun hF => k hF hF
theorem v_in (k : v_wp L d m 0 (z_ent (z_ml m) ll) [] M Q) : v_call L d m ll M Q := k
theorem v_st {o : zO} {pc' : Nat} {ll' st' : List zV} (hc : z_cd m pc = o) (h : z_stp o ll st (z_N0, z_S0, z_sC L, M) = some (pc', ll', st', (z_N0, z_S0, z_sC L, M))) (k : v_wp L d m pc' ll' st' M Q) (h30 : o.1 < 30 ∨ 5 ≤ d) : v_wp L d m pc ll st M Q := fun hF => x_st hc h (k hF) h30
theorem v_callr {c na kd : Int} (hc : z_cd m pc = (25, n, c, na, kd, q)) (h1 : na.toNat ≤ st.length ∧ z_cs (st.drop na.toNat) ≤ 8 ∧ z_rcv (z_N0, z_S0, z_sC L, M) kd (st.take na.toNat).reverse = true ∧ (z_sl (st.take na.toNat).reverse).length ≤ z_ml c.toNat ∧ (st.take na.toNat).all (fun v => decide (v.1 < 3)) = true)
    (k : v_call L d c.toNat (st.take na.toNat).reverse M (fun rv M1 => v_wp L (d + 1) m n ll (rv.toList ++ st.drop na.toNat) M1 Q)) : v_wp L (d + 1) m pc ll st M Q := by
  intro hF
  refine x_call hc h1 (z_call_mono (k hF) ?_)
  intro rv σ' ⟨M', e, hF', hQ⟩
  subst e
  exact hQ hF'
theorem v_ret {t : Int} {rv : Option zV} (hc : z_cd m pc = (26, n, t, g, g1, q)) (h : z_ret t st = some rv) (k : Q rv M) : v_wp L d m pc ll st M Q := fun hF => x_ret hc h ⟨M, rfl, hF, k⟩
theorem v_push {x : Int} (hc : z_cd m pc = (0, n, x, g, g1, q)) (k : v_wp L d m n ll ((0, x) :: st) M Q) : v_wp L d m pc ll st M Q := fun hF => x_push hc (k hF)
theorem v_load {i t : Int} {v : zV} (hc : z_cd m pc = (1, n, i, t, g, q)) (hv : ll[i.toNat]? = some v) (ht : (v.1 : Int) = t ∧ v.1 < 3) (k : v_wp L d m n ll (v :: st) M Q) : v_wp L d m pc ll st M Q := fun hF => x_load hc hv ht (k hF)
theorem v_store {i t : Int} {v : zV} {ll' : List zV} (hc : z_cd m pc = (2, n, i, t, g, q)) (ht : (v.1 : Int) = t ∧ v.1 < 3 ∧ i.toNat + v.1 % 2 < ll.length ∧ z_pre ll i.toNat = true) (hl : z_set ll i.toNat v = ll') (k : v_wp L d m n ll' st M Q) : v_wp L d m pc ll (v :: st) M Q := fun hF => x_store hc ht hl (k hF)
theorem v_iinc {i kc x : Int} {ll' : List zV} (hc : z_cd m pc = (3, n, i, kc, g, q)) (hv : ll[i.toNat]? = some (0, x)) (hp : z_pre ll i.toNat = true) (hr : -2147483648 ≤ x + kc ∧ x + kc < 2147483648) (hl : ll.set i.toNat (0, x + kc) = ll') (k : v_wp L d m n ll' st M Q) : v_wp L d m pc ll st M Q := fun hF => x_iinc hc hv hp (by rw [z_w_id hr]; exact hl) (k hF)
theorem v_add {x y : Int} (hc : z_cd m pc = (4, n, 0, g, g1, q)) (hr : -2147483648 ≤ x + y ∧ x + y < 2147483648) (k : v_wp L d m n ll ((0, x + y) :: st) M Q) : v_wp L d m pc ll ((0, y) :: (0, x) :: st) M Q := fun hF => x_add hc (by rw [z_w_id hr]; exact k hF)
theorem v_sub {x y : Int} (hc : z_cd m pc = (4, n, 1, g, g1, q)) (hr : -2147483648 ≤ x - y ∧ x - y < 2147483648) (k : v_wp L d m n ll ((0, x - y) :: st) M Q) : v_wp L d m pc ll ((0, y) :: (0, x) :: st) M Q := fun hF => x_sub hc (by rw [z_w_id hr]; exact k hF)
theorem v_mul {x y : Int} (hc : z_cd m pc = (4, n, 2, g, g1, q)) (hr : -2147483648 ≤ x * y ∧ x * y < 2147483648) (k : v_wp L d m n ll ((0, x * y) :: st) M Q) : v_wp L d m pc ll ((0, y) :: (0, x) :: st) M Q := fun hF => x_mul hc (by rw [z_w_id hr]; exact k hF)
theorem v_alu {kc x y z : Int} (hc : z_cd m pc = (4, n, kc, g, g1, q)) (hz : z_alu kc x y = some z) (k : v_wp L d m n ll ((0, z) :: st) M Q) : v_wp L d m pc ll ((0, y) :: (0, x) :: st) M Q := fun hF => x_alu hc hz (k hF)
theorem v_lalu {kc x y z : Int} (hc : z_cd m pc = (5, n, kc, g, g1, q)) (h4 : ¬ kc = 4) (hz : z_lalu kc x y = some z) (k : v_wp L d m n ll ((1, z) :: st) M Q) : v_wp L d m pc ll ((1, y) :: (1, x) :: st) M Q := fun hF => x_lalu hc h4 hz (k hF)
theorem v_lcmp {x y : Int} (hc : z_cd m pc = (5, n, 4, g, g1, q)) (k : v_wp L d m n ll ((0, z_cmp x y) :: st) M Q) : v_wp L d m pc ll ((1, y) :: (1, x) :: st) M Q := fun hF => x_lcmp hc (k hF)
theorem v_i2l {x : Int} (hc : z_cd m pc = (6, n, 0, g, g1, q)) (k : v_wp L d m n ll ((1, x) :: st) M Q) : v_wp L d m pc ll ((0, x) :: st) M Q := fun hF => x_i2l hc (k hF)
theorem v_l2i {x : Int} (hc : z_cd m pc = (6, n, 1, g, g1, q)) (k : v_wp L d m n ll ((0, z_w x) :: st) M Q) : v_wp L d m pc ll ((1, x) :: st) M Q := fun hF => x_l2i hc (k hF)
theorem v_dup {v : zV} (hc : z_cd m pc = (7, n, g, g1, g2, q)) (hv : v.1 = 0 ∨ v.1 = 2) (k : v_wp L d m n ll (v :: v :: st) M Q) : v_wp L d m pc ll (v :: st) M Q := fun hF => x_dup hc hv (k hF)
theorem v_pop {v : zV} (hc : z_cd m pc = (8, n, g, g1, g2, q)) (hv : v.1 = 0 ∨ v.1 = 2) (k : v_wp L d m n ll st M Q) : v_wp L d m pc ll (v :: st) M Q := fun hF => x_pop hc hv (k hF)
theorem v_dup2 {v w : zV} (hc : z_cd m pc = (9, n, g, g1, g2, q)) (hv : (v.1 = 0 ∨ v.1 = 2) ∧ (w.1 = 0 ∨ w.1 = 2)) (k : v_wp L d m n ll (v :: w :: v :: w :: st) M Q) : v_wp L d m pc ll (v :: w :: st) M Q := fun hF => x_dup2 hc hv (k hF)
theorem v_goto {t : Int} (hc : z_cd m pc = (12, n, t, g, g1, q)) (k : v_wp L d m t.toNat ll st M Q) : v_wp L d m pc ll st M Q := fun hF => x_goto hc (k hF)
theorem v_ifeq {t x : Int} (hc : z_cd m pc = (10, n, 0, t, g, q)) (k1 : x = 0 → v_wp L d m t.toNat ll st M Q) (k2 : ¬ x = 0 → v_wp L d m n ll st M Q) : v_wp L d m pc ll ((0, x) :: st) M Q := fun hF => x_ifeq hc (fun h => k1 h hF) (fun h => k2 h hF)
theorem v_ifne {t x : Int} (hc : z_cd m pc = (10, n, 1, t, g, q)) (k1 : ¬ x = 0 → v_wp L d m t.toNat ll st M Q) (k2 : x = 0 → v_wp L d m n ll st M Q) : v_wp L d m pc ll ((0, x) :: st) M Q := fun hF => x_ifne hc (fun h => k1 h hF) (fun h => k2 h hF)
theorem v_iflt {t x : Int} (hc : z_cd m pc = (10, n, 2, t, g, q)) (k1 : x < 0 → v_wp L d m t.toNat ll st M Q) (k2 : 0 ≤ x → v_wp L d m n ll st M Q) : v_wp L d m pc ll ((0, x) :: st) M Q := fun hF => x_iflt hc (fun h => k1 h hF) (fun h => k2 h hF)
theorem v_ifge {t x : Int} (hc : z_cd m pc = (10, n, 3, t, g, q)) (k1 : 0 ≤ x → v_wp L d m t.toNat ll st M Q) (k2 : x < 0 → v_wp L d m n ll st M Q) : v_wp L d m pc ll ((0, x) :: st) M Q := fun hF => x_ifge hc (fun h => k1 h hF) (fun h => k2 h hF)
theorem v_ifgt {t x : Int} (hc : z_cd m pc = (10, n, 4, t, g, q)) (k1 : 0 < x → v_wp L d m t.toNat ll st M Q) (k2 : x ≤ 0 → v_wp L d m n ll st M Q) : v_wp L d m pc ll ((0, x) :: st) M Q := fun hF => x_ifgt hc (fun h => k1 h hF) (fun h => k2 h hF)
theorem v_ifle {t x : Int} (hc : z_cd m pc = (10, n, 5, t, g, q)) (k1 : x ≤ 0 → v_wp L d m t.toNat ll st M Q) (k2 : 0 < x → v_wp L d m n ll st M Q) : v_wp L d m pc ll ((0, x) :: st) M Q := fun hF => x_ifle hc (fun h => k1 h hF) (fun h => k2 h hF)
theorem v_ieq {t x y : Int} (hc : z_cd m pc = (11, n, 0, t, g, q)) (k1 : x = y → v_wp L d m t.toNat ll st M Q) (k2 : ¬ x = y → v_wp L d m n ll st M Q) : v_wp L d m pc ll ((0, y) :: (0, x) :: st) M Q := fun hF => x_ieq hc (fun h => k1 h hF) (fun h => k2 h hF)
theorem v_ine {t x y : Int} (hc : z_cd m pc = (11, n, 1, t, g, q)) (k1 : ¬ x = y → v_wp L d m t.toNat ll st M Q) (k2 : x = y → v_wp L d m n ll st M Q) : v_wp L d m pc ll ((0, y) :: (0, x) :: st) M Q := fun hF => x_ine hc (fun h => k1 h hF) (fun h => k2 h hF)
theorem v_ilt {t x y : Int} (hc : z_cd m pc = (11, n, 2, t, g, q)) (k1 : x < y → v_wp L d m t.toNat ll st M Q) (k2 : y ≤ x → v_wp L d m n ll st M Q) : v_wp L d m pc ll ((0, y) :: (0, x) :: st) M Q := fun hF => x_ilt hc (fun h => k1 h hF) (fun h => k2 h hF)
theorem v_ige {t x y : Int} (hc : z_cd m pc = (11, n, 3, t, g, q)) (k1 : y ≤ x → v_wp L d m t.toNat ll st M Q) (k2 : x < y → v_wp L d m n ll st M Q) : v_wp L d m pc ll ((0, y) :: (0, x) :: st) M Q := fun hF => x_ige hc (fun h => k1 h hF) (fun h => k2 h hF)
theorem v_igt {t x y : Int} (hc : z_cd m pc = (11, n, 4, t, g, q)) (k1 : y < x → v_wp L d m t.toNat ll st M Q) (k2 : x ≤ y → v_wp L d m n ll st M Q) : v_wp L d m pc ll ((0, y) :: (0, x) :: st) M Q := fun hF => x_igt hc (fun h => k1 h hF) (fun h => k2 h hF)
theorem v_ile {t x y : Int} (hc : z_cd m pc = (11, n, 5, t, g, q)) (k1 : x ≤ y → v_wp L d m t.toNat ll st M Q) (k2 : y < x → v_wp L d m n ll st M Q) : v_wp L d m pc ll ((0, y) :: (0, x) :: st) M Q := fun hF => x_ile hc (fun h => k1 h hF) (fun h => k2 h hF)
theorem v_tsw {dd lo hi x : Int} (hc : z_cd m pc = (13, n, dd, lo, hi, q)) (k : v_wp L d m (z_sw dd x q).toNat ll st M Q) : v_wp L d m pc ll ((0, x) :: st) M Q := fun hF => x_tsw hc (k hF)
theorem v_lsw {dd x : Int} (hc : z_cd m pc = (14, n, dd, g, g1, q)) (k : v_wp L d m (z_sw dd x q).toNat ll st M Q) : v_wp L d m pc ll ((0, x) :: st) M Q := fun hF => x_lsw hc (k hF)
/-- a field that is a number, a switch, or a long -/
theorem v_geti {ci k a : Int} (hc : z_cd m pc = (15, n, ci, k, 0, q)) (ha : ((z_sC L a).1 : Int) = ci) (kk : v_wp L d m n ll ((0, M a k) :: st) M Q) : v_wp L d m pc ll ((2, a) :: st) M Q := fun hF => x_get hc ha (kk hF)
theorem v_getz {ci k a : Int} (hc : z_cd m pc = (15, n, ci, k, 3, q)) (ha : ((z_sC L a).1 : Int) = ci) (kk : v_wp L d m n ll ((0, M a k) :: st) M Q) : v_wp L d m pc ll ((2, a) :: st) M Q := fun hF => x_get hc ha (kk hF)
theorem v_getl {ci k a : Int} (hc : z_cd m pc = (15, n, ci, k, 1, q)) (ha : ((z_sC L a).1 : Int) = ci) (kk : v_wp L d m n ll ((1, M a k) :: st) M Q) : v_wp L d m pc ll ((2, a) :: st) M Q := fun hF => x_get hc ha (kk hF)
/-- .. a cell, for good -/
theorem v_getp {ci k a r : Int} (hc : z_cd m pc = (15, n, ci, k, 2, q)) (ha : ((z_sC L a).1 : Int) = ci) (hp : z_ptr a k = some r) (kk : v_wp L d m n ll ((2, r) :: st) M Q) : v_wp L d m pc ll ((2, a) :: st) M Q := fun hF => x_get hc ha (by rw [hF a k r hp]; exact kk hF)
theorem v_puti {ci k a x : Int} (hc : z_cd m pc = (16, n, ci, k, 0, q)) (ha : ((z_sC L a).1 : Int) = ci) (hp : z_ptr a k = none) (kk : v_wp L d m n ll st (z_upd M a k x) Q) : v_wp L d m pc ll ((0, x) :: (2, a) :: st) M Q := fun hF => x_put hc ⟨ha, rfl, rfl⟩ (kk (z_FX_upd hF hp))
theorem v_putz {ci k a x : Int} (hc : z_cd m pc = (16, n, ci, k, 3, q)) (ha : ((z_sC L a).1 : Int) = ci) (hx : x = 0 ∨ x = 1) (hp : z_ptr a k = none) (kk : v_wp L d m n ll st (z_upd M a k x) Q) : v_wp L d m pc ll ((0, x) :: (2, a) :: st) M Q := fun hF => x_put hc ⟨ha, rfl, decide_eq_true hx⟩ (kk (z_FX_upd hF hp))
theorem v_putl {ci k a x : Int} (hc : z_cd m pc = (16, n, ci, k, 1, q)) (ha : ((z_sC L a).1 : Int) = ci) (hp : z_ptr a k = none) (kk : v_wp L d m n ll st (z_upd M a k x) Q) : v_wp L d m pc ll ((1, x) :: (2, a) :: st) M Q := fun hF => x_put hc ⟨ha, rfl, rfl⟩ (kk (z_FX_upd hF hp))
theorem z_ptr_arr {a k : Int} (h : 9 ≤ (z_sC L a).1) (h2 : (z_sC L a).1 ≤ 12) : z_ptr a k = none := by
  have key : ∀ j, j < 128 → 9 ≤ (z_shL.getD (j - 1) (99, 0)).1 → 1 ≤ j → (z_shL.getD (j - 1) (99, 0)).1 ≤ 12 → z_ptL.getD j [] = [] := by decide +kernel
  unfold z_ptr
  split
  · rename_i h0
    unfold z_sC at h h2
    split at h
    · omega
    · rename_i hm
      rw [if_neg hm] at h2
      split at h
      · rename_i h1
        rw [if_pos h1] at h2
        by_cases hj : a.toNat < 128
        · rw [key a.toNat hj h (by omega) h2]
          rfl
        · rw [List.getD_eq_getElem?_getD, List.getElem?_eq_none (by show z_shL.length ≤ _; have : z_shL.length = 127 := rfl; omega)] at h2
          simp at h2
      · rename_i h1
        rw [if_neg h1] at h2
        simp at h2
  · rfl
theorem v_ald9 {a i : Int} (hc : z_cd m pc = (17, n, 9, g, g1, q)) (ha : (z_sC L a).1 = 9) (hi : 0 ≤ i ∧ i < ((z_sC L a).2 : Int)) (kk : v_wp L d m n ll ((0, M a i) :: st) M Q) : v_wp L d m pc ll ((0, i) :: (2, a) :: st) M Q := fun hF => x_ald hc (by rw [ha]; rfl) hi (kk hF)
theorem v_ald10 {a i : Int} (hc : z_cd m pc = (17, n, 10, g, g1, q)) (ha : (z_sC L a).1 = 10) (hi : 0 ≤ i ∧ i < ((z_sC L a).2 : Int)) (kk : v_wp L d m n ll ((1, M a i) :: st) M Q) : v_wp L d m pc ll ((0, i) :: (2, a) :: st) M Q := fun hF => x_ald hc (by rw [ha]; rfl) hi (kk hF)
theorem v_ald11 {a i : Int} (hc : z_cd m pc = (17, n, 11, g, g1, q)) (ha : (z_sC L a).1 = 11) (hi : 0 ≤ i ∧ i < ((z_sC L a).2 : Int)) (kk : v_wp L d m n ll ((0, M a i) :: st) M Q) : v_wp L d m pc ll ((0, i) :: (2, a) :: st) M Q := fun hF => x_ald hc (by rw [ha]; rfl) hi (kk hF)
theorem v_ald12 {a i : Int} (hc : z_cd m pc = (17, n, 12, g, g1, q)) (ha : (z_sC L a).1 = 12) (hi : 0 ≤ i ∧ i < ((z_sC L a).2 : Int)) (kk : v_wp L d m n ll ((2, M a i) :: st) M Q) : v_wp L d m pc ll ((0, i) :: (2, a) :: st) M Q := fun hF => x_ald hc (by rw [ha]; rfl) hi (kk hF)
theorem v_ast9 {a i x : Int} (hc : z_cd m pc = (18, n, 9, g, g1, q)) (ha : (z_sC L a).1 = 9) (hp : 0 < a) (hi : 0 ≤ i ∧ i < ((z_sC L a).2 : Int)) (kk : v_wp L d m n ll st (z_upd M a i x) Q) : v_wp L d m pc ll ((0, x) :: (0, i) :: (2, a) :: st) M Q := fun hF => x_ast hc (by rw [ha]; rfl) hp hi ⟨rfl, rfl, fun h => absurd h (by decide)⟩ (kk (z_FX_upd hF (z_ptr_arr (L := L) (by omega) (by omega))))
theorem v_ast10 {a i x : Int} (hc : z_cd m pc = (18, n, 10, g, g1, q)) (ha : (z_sC L a).1 = 10) (hp : 0 < a) (hi : 0 ≤ i ∧ i < ((z_sC L a).2 : Int)) (kk : v_wp L d m n ll st (z_upd M a i x) Q) : v_wp L d m pc ll ((1, x) :: (0, i) :: (2, a) :: st) M Q := fun hF => x_ast hc (by rw [ha]; rfl) hp hi ⟨rfl, rfl, fun h => absurd h (by decide)⟩ (kk (z_FX_upd hF (z_ptr_arr (L := L) (by omega) (by omega))))
theorem v_ast11 {a i x : Int} (hc : z_cd m pc = (18, n, 11, g, g1, q)) (ha : (z_sC L a).1 = 11) (hp : 0 < a) (hi : 0 ≤ i ∧ i < ((z_sC L a).2 : Int)) (hx : x = 0 ∨ x = 1) (kk : v_wp L d m n ll st (z_upd M a i x) Q) : v_wp L d m pc ll ((0, x) :: (0, i) :: (2, a) :: st) M Q := fun hF => x_ast hc (by rw [ha]; rfl) hp hi ⟨rfl, decide_eq_true hx, fun h => absurd h (by decide)⟩ (kk (z_FX_upd hF (z_ptr_arr (L := L) (by omega) (by omega))))
theorem v_ast12 {a i x : Int} (hc : z_cd m pc = (18, n, 12, g, g1, q)) (ha : (z_sC L a).1 = 12) (hp : 0 < a) (hi : 0 ≤ i ∧ i < ((z_sC L a).2 : Int)) (hx : (z_sC L x).1 = 0) (kk : v_wp L d m n ll st (z_upd M a i x) Q) : v_wp L d m pc ll ((2, x) :: (0, i) :: (2, a) :: st) M Q := fun hF => x_ast hc (by rw [ha]; rfl) hp hi ⟨rfl, rfl, fun _ => hx⟩ (kk (z_FX_upd hF (z_ptr_arr (L := L) (by omega) (by omega))))
theorem v_len {a : Int} {x : Int} (hc : z_cd m pc = (19, n, g, g1, g2, q)) (ha : 9 ≤ (z_sC L a).1 ∧ (z_sC L a).1 ≤ 12) (hx : ((z_sC L a).2 : Int) = x) (kk : v_wp L d m n ll ((0, x) :: st) M Q) : v_wp L d m pc ll ((2, a) :: st) M Q := fun hF => x_len hc ha (by rw [hx]; exact kk hF)
theorem v_lcon {x : Int} (hc : z_cd m pc = (24, n, x, g, g1, q)) (k : v_wp L d m n ll ((1, x) :: st) M Q) : v_wp L d m pc ll st M Q := fun hF => x_lcon hc (k hF)
theorem v_max {x y : Int} (hc : z_cd m pc = (28, n, 0, g, g1, q)) (h4 : ¬ 4 < st.length) (k : v_wp L d m n ll ((0, if x < y then y else x) :: st) M Q) : v_wp L d m pc ll ((0, y) :: (0, x) :: st) M Q := fun hF => x_max hc h4 (k hF)
theorem v_min {x y : Int} (hc : z_cd m pc = (28, n, 1, g, g1, q)) (h4 : ¬ 4 < st.length) (k : v_wp L d m n ll ((0, if y < x then y else x) :: st) M Q) : v_wp L d m pc ll ((0, y) :: (0, x) :: st) M Q := fun hF => x_min hc h4 (k hF)
end VW
