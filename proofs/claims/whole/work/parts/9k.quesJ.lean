/-! QUESTIONS: value -/
def jn (g l r : Int) : Int := if g = 43 then z_W (l + r) else if g = 45 then z_W (l - r) else if g = 42 then z_W (l * r) else if r = 0 then 0 else z_W (l.tdiv r)
def dgL (t : List Int) : Nat → Int → Int → Int
  | 0, _, x => x
  | n + 1, p, x => dgL t n (p + 1) (z_W (z_W (z_W (x * 10) + tb t p) - 48))
def dgt (t : List Int) (a e : Int) : Int := dgL t (e - (if a < e - 9 then e - 9 else a)).toNat (if a < e - 9 then e - 9 else a) 0
noncomputable def vst (t : List Int) (W : Int → Int) (i : Int) : Int := if (nd (NT (toks t)) i).1 = 13 then dgt t (pF t i) (pE t i) else if (nd (NT (toks t)) i).1 = 14 then pE t i - pF t i - 2 else if (nd (NT (toks t)) i).1 = 15 then W (kid t i 1) else if (nd (NT (toks t)) i).1 = 10 ∨ (nd (NT (toks t)) i).1 = 11 then jn (nd (NT (toks t)) (kid t i 1)).2.2.2.2.2.2.2 (W (kid t i 0)) (W (kid t i 2)) else 0
theorem kids3 {t : List Int} {i : Int} (hi : 0 ≤ i ∧ i < ((NT (toks t)).length : Int)) (h : (nd (NT (toks t)) i).1 = 15 ∨ (nd (NT (toks t)) i).1 = 10 ∨ (nd (NT (toks t)) i).1 = 11) : (nd (NT (toks t)) i).2.2.1 = 3 ∧ (¬ (nd (NT (toks t)) i).1 = 15 → (nd (NT (toks t)) (kid t i 1)).1 = 16 ∧ 40 ≤ (nd (NT (toks t)) (kid t i 1)).2.2.2.2.2.2.2) := by
  have hn := inner hi (by omega)
  obtain ⟨hs, h1, h2, h3⟩ := SHP ⟨hn.1, hi.2⟩ hn.2
  have h31 := h3 1
  generalize hg : kid t i ((1 : Nat) : Int) = z at h31
  have hg : kid t i 1 = z := hg
  unfold shp at h2
  generalize (nd (NT (toks t)) i).1 = so at *
  rcases h2 with ⟨e, -⟩ | ⟨e, -⟩ | ⟨e, -⟩ | ⟨e, -⟩ | ⟨e, -⟩ | ⟨e, -⟩ | ⟨e, x, y, q, eh, -, -, h6⟩ | ⟨e, x, y, eh, -⟩
  · omega
  · omega
  · omega
  · omega
  · omega
  · omega
  · subst eh
    have h31 := h31 (by show 1 < 3; decide)
    have hs16 : (qN (nd (NT (toks t)) z)).1 = 16 := by rw [h31]; rfl
    have hsg : (qN (nd (NT (toks t)) z)).2.2.2.2.2 = sgn (toks t) q := by rw [h31]; rfl
    have hsg : (nd (NT (toks t)) z).2.2.2.2.2.2.2 = sgn (toks t) q := hsg
    refine ⟨h1.symm, fun _ => ?_⟩
    exact ⟨hs16, by omega⟩
  · subst eh
    exact ⟨h1.symm, fun z => absurd e z⟩
theorem vst_ext {t : List Int} {W W' : Int → Int} {i : Int} (hi : 0 ≤ i ∧ i < ((NT (toks t)).length : Int)) (h : ∀ x, i < x → x < i + (nd (NT (toks t)) i).2.2.2.1 → W x = W' x) : vst t W i = vst t W' i := by
  have kk : ∀ k : Int, 0 ≤ k → k < (nd (NT (toks t)) i).2.2.1 → W (kid t i k) = W' (kid t i k) := fun k k0 k1 => by
    obtain ⟨a1, a2, a3, a4, a5, a6, a7, -⟩ := KID (t := t) hi (k := k.toNat) (by omega)
    have e : kid t i k = (posF (NT (toks t)) (i.toNat + 1) k.toNat : Int) := by unfold kid; rw [if_pos ⟨k0, k1⟩]
    rw [e]
    exact h _ a1 (by omega)
  unfold vst
  by_cases c1 : (nd (NT (toks t)) i).1 = 13
  · rw [if_pos c1, if_pos c1]
  · rw [if_neg c1, if_neg c1]
    by_cases c2 : (nd (NT (toks t)) i).1 = 14
    · rw [if_pos c2, if_pos c2]
    · rw [if_neg c2, if_neg c2]
      by_cases c3 : (nd (NT (toks t)) i).1 = 15
      · have k3 := (kids3 hi (Or.inl c3)).1
        rw [if_pos c3, if_pos c3, kk 1 (by omega) (by omega)]
      · rw [if_neg c3, if_neg c3]
        by_cases c4 : (nd (NT (toks t)) i).1 = 10 ∨ (nd (NT (toks t)) i).1 = 11
        · have k3 := (kids3 hi (Or.inr c4)).1
          rw [if_pos c4, if_pos c4, kk 0 (by omega) (by omega), kk 2 (by omega) (by omega)]
        · rw [if_neg c4, if_neg c4]
noncomputable def vl (t : List Int) : Nat → Int → Int
  | 0, _ => 0
  | f + 1, i => vst t (vl t f) i
theorem vl_fuel {t : List Int} : ∀ (f g : Nat) (i : Int), 0 ≤ i → i < ((NT (toks t)).length : Int) → ((NT (toks t)).length : Int) - i ≤ (f : Int) → ((NT (toks t)).length : Int) - i ≤ (g : Int) → vl t f i = vl t g i
  | 0, _, i, h0, h1, h2, _ => by omega
  | f + 1, 0, i, h0, h1, _, h3 => by omega
  | f + 1, g + 1, i, h0, h1, h2, h3 => by
    have z := NT_siz (t := t) ⟨h0, h1⟩
    exact vst_ext ⟨h0, h1⟩ (fun x hx hx' => vl_fuel f g x (by omega) (by omega) (by omega) (by omega))
noncomputable def V (t : List Int) (i : Int) : Int := vl t (NT (toks t)).length i
theorem V_eq {t : List Int} {i : Int} (hi : 0 ≤ i ∧ i < ((NT (toks t)).length : Int)) : V t i = vst t (V t) i := by
  have z := NT_siz (t := t) hi
  have e : V t i = vl t ((NT (toks t)).length + 1) i := vl_fuel _ _ i hi.1 hi.2 (by omega) (by omega)
  rw [e]
  exact vst_ext hi (fun x hx hx' => rfl)
def hasV (so : Int) : Bool := decide ((10 ≤ so ∧ so ≤ 15) ∨ so = 17)
noncomputable def valueQ (s : zA) (i : Int) : Int := if hasV (nd (NT (toks s.1.1)) i).1 = true then V s.1.1 i else -9223372036854775808
section QJ
variable {L d n : Nat} {M : zM} {Q : Option zV → zM → Prop} {s : zA} {t : List Int}
theorem S_dig_loop {a e : Int} (hV : BV M 2 t 0) (he : e ≤ 300) : ∀ (n : Nat) (p x : Int), p + (n : Int) = e → 0 ≤ p → Q (some (1, dgL t n p x)) M → v_wp L (d + 2) 117 12 [(2, 75), (0, a), (0, e), (1, x), (9, 0), (0, p)] [] M Q := by
  intro n
  induction n with
  | zero =>
    intro p x hp h0 k
    refine v_load rfl rfl ⟨rfl, Nat.le_of_ble_eq_true rfl⟩ ?_
    refine v_load rfl rfl ⟨rfl, Nat.le_of_ble_eq_true rfl⟩ ?_
    refine v_ige rfl (fun _ => ?_) (fun h => absurd h (by omega))
    refine v_load rfl rfl ⟨rfl, Nat.le_of_ble_eq_true rfl⟩ ?_
    refine v_ret rfl rfl ?_
    exact k
  | succ n ih =>
    intro p x hp h0 k
    refine v_load rfl rfl ⟨rfl, Nat.le_of_ble_eq_true rfl⟩ ?_
    refine v_load rfl rfl ⟨rfl, Nat.le_of_ble_eq_true rfl⟩ ?_
    refine v_ige rfl (fun h => absurd h (by omega)) (fun _ => ?_)
    refine v_load rfl rfl ⟨rfl, Nat.le_of_ble_eq_true rfl⟩ ?_
    refine v_lcon rfl ?_
    refine v_lalu rfl (by decide) (show z_lalu 2 _ _ = some (z_W _) from rfl) ?_
    refine v_load rfl rfl ⟨rfl, Nat.le_of_ble_eq_true rfl⟩ ?_
    refine v_getp rfl rfl rfl ?_
    refine v_load rfl rfl ⟨rfl, Nat.le_of_ble_eq_true rfl⟩ ?_
    refine v_callr rfl ⟨Nat.le_of_ble_eq_true rfl, Nat.le_of_ble_eq_true rfl, rfl, Nat.le_of_ble_eq_true rfl, rfl⟩ ?_
    refine S_atT z_B2 hV ?_
    refine v_i2l rfl ?_
    refine v_lalu rfl (by decide) (show z_lalu 0 _ _ = some (z_W _) from rfl) ?_
    refine v_lcon rfl ?_
    refine v_lalu rfl (by decide) (show z_lalu 1 _ _ = some (z_W _) from rfl) ?_
    refine v_store rfl ⟨rfl, Nat.le_of_ble_eq_true rfl, (show 3 + 1 % 2 < 6 by decide), rfl⟩ rfl ?_
    refine v_iinc rfl rfl rfl (by omega) rfl ?_
    refine v_goto rfl ?_
    exact ih _ _ (by omega) (by omega) k
theorem S_ofDigits {a e : Int} (hV : BV M 2 t 0) (h0 : 0 ≤ a ∧ a ≤ e) (he : e ≤ 300) (k : Q (some (1, dgt t a e)) M) : v_call L (d + 2) 117 [(2, 75), (0, a), (0, e)] M Q := by
  refine v_in ?_
  refine v_lcon rfl ?_
  refine v_store rfl ⟨rfl, Nat.le_of_ble_eq_true rfl, (show 3 + 1 % 2 < 6 by decide), rfl⟩ rfl ?_
  refine v_load rfl rfl ⟨rfl, Nat.le_of_ble_eq_true rfl⟩ ?_
  refine v_load rfl rfl ⟨rfl, Nat.le_of_ble_eq_true rfl⟩ ?_
  refine v_push rfl ?_
  refine v_sub rfl (by omega) ?_
  refine v_max rfl (by show ¬ (4 : Nat) < 0; decide) ?_
  refine v_store rfl ⟨rfl, Nat.le_of_ble_eq_true rfl, Nat.le_of_ble_eq_true rfl, rfl⟩ rfl ?_
  refine S_dig_loop hV he _ _ _ ?_ ?_ k
  · split <;> omega
  · split <;> omega
theorem S_known {x : Int} (hx : 0 ≤ x ∧ x < 1216) (k : Q (some (1, M 76 x)) M) : v_call L d 115 [(2, 75), (0, x)] M Q := by
  have h76 : (z_sC L 76).2 = 1216 := rfl
  refine v_in ?_
  refine v_load rfl rfl ⟨rfl, Nat.le_of_ble_eq_true rfl⟩ ?_
  refine v_iflt rfl (fun h => absurd h (by omega)) (fun _ => ?_)
  refine v_load rfl rfl ⟨rfl, Nat.le_of_ble_eq_true rfl⟩ ?_
  refine v_load rfl rfl ⟨rfl, Nat.le_of_ble_eq_true rfl⟩ ?_
  refine v_getp rfl rfl rfl ?_
  refine v_len rfl ⟨Nat.le_of_ble_eq_true rfl, Nat.le_of_ble_eq_true rfl⟩ rfl ?_
  refine v_ige rfl (fun h => absurd h (by rw [h76]; omega)) (fun _ => ?_)
  refine v_load rfl rfl ⟨rfl, Nat.le_of_ble_eq_true rfl⟩ ?_
  refine v_getp rfl rfl rfl ?_
  refine v_load rfl rfl ⟨rfl, Nat.le_of_ble_eq_true rfl⟩ ?_
  refine v_ald10 rfl rfl ⟨by omega, by show _ < (1216 : Int); omega⟩ ?_
  refine v_goto rfl ?_
  refine v_ret rfl rfl ?_
  exact k
theorem S_joined {g l r : Int} (k : Q (some (1, jn g l r)) M) : v_call L d 118 [(0, g), (1, l), (1, r)] M Q := by
  unfold jn at k
  refine v_in ?_
  by_cases c1 : g = 43
  · subst c1
    refine v_load rfl rfl ⟨rfl, Nat.le_of_ble_eq_true rfl⟩ ?_
    refine v_tsw rfl ?_
    refine v_load rfl rfl ⟨rfl, Nat.le_of_ble_eq_true rfl⟩ ?_
    refine v_load rfl rfl ⟨rfl, Nat.le_of_ble_eq_true rfl⟩ ?_
    refine v_lalu rfl (by decide) (show z_lalu 0 _ _ = some (z_W _) from rfl) ?_
    refine v_ret rfl rfl ?_
    exact k
  · by_cases c2 : g = 45
    · subst c2
      refine v_load rfl rfl ⟨rfl, Nat.le_of_ble_eq_true rfl⟩ ?_
      refine v_tsw rfl ?_
      refine v_load rfl rfl ⟨rfl, Nat.le_of_ble_eq_true rfl⟩ ?_
      refine v_load rfl rfl ⟨rfl, Nat.le_of_ble_eq_true rfl⟩ ?_
      refine v_lalu rfl (by decide) (show z_lalu 1 _ _ = some (z_W _) from rfl) ?_
      refine v_ret rfl rfl ?_
      exact k
    · by_cases c3 : g = 42
      · subst c3
        refine v_load rfl rfl ⟨rfl, Nat.le_of_ble_eq_true rfl⟩ ?_
        refine v_tsw rfl ?_
        refine v_load rfl rfl ⟨rfl, Nat.le_of_ble_eq_true rfl⟩ ?_
        refine v_load rfl rfl ⟨rfl, Nat.le_of_ble_eq_true rfl⟩ ?_
        refine v_lalu rfl (by decide) (show z_lalu 2 _ _ = some (z_W _) from rfl) ?_
        refine v_ret rfl rfl ?_
        exact k
      · rw [if_neg c1, if_neg c2, if_neg c3] at k
        have esw : (z_sw 44 g [(42, 40), (43, 32), (44, 44), (45, 36)]).toNat = 44 := by
          unfold z_sw; rw [if_neg c3]
          unfold z_sw; rw [if_neg c1]
          unfold z_sw
          by_cases c4 : g = 44
          · rw [if_pos c4]; rfl
          · rw [if_neg c4]
            unfold z_sw; rw [if_neg c2]
            rfl
        by_cases c4 : r = 0
        · subst c4
          rw [if_pos rfl] at k
          refine v_load rfl rfl ⟨rfl, Nat.le_of_ble_eq_true rfl⟩ ?_
          refine v_tsw rfl ?_
          rw [esw]
          refine v_load rfl rfl ⟨rfl, Nat.le_of_ble_eq_true rfl⟩ ?_
          refine v_lcon rfl ?_
          refine v_lcmp rfl ?_
          refine v_ifne rfl (fun h => absurd h (by decide)) (fun _ => ?_)
          refine v_lcon rfl ?_
          refine v_goto rfl ?_
          refine v_ret rfl rfl ?_
          exact k
        · rw [if_neg c4] at k
          have ec : ¬ z_cmp r 0 = 0 := by unfold z_cmp; repeat' split; all_goals omega
          have hz : z_lalu 3 l r = some (z_W (l.tdiv r)) := by
            show (if r = 0 then none else some (z_W _)) = _
            rw [if_neg c4]
          refine v_load rfl rfl ⟨rfl, Nat.le_of_ble_eq_true rfl⟩ ?_
          refine v_tsw rfl ?_
          rw [esw]
          refine v_load rfl rfl ⟨rfl, Nat.le_of_ble_eq_true rfl⟩ ?_
          refine v_lcon rfl ?_
          refine v_lcmp rfl ?_
          refine v_ifne rfl (fun _ => ?_) (fun h => absurd h (ec))
          refine v_load rfl rfl ⟨rfl, Nat.le_of_ble_eq_true rfl⟩ ?_
          refine v_load rfl rfl ⟨rfl, Nat.le_of_ble_eq_true rfl⟩ ?_
          refine v_lalu rfl (by decide) hz ?_
          refine v_ret rfl rfl ?_
          exact k
theorem S_hasWorth {so : Int} (k : Q (some (0, b2i (hasV so))) M) : v_call L d 114 [(0, so)] M Q := by
  have hk : b2i (hasV so) = if (10 ≤ so ∧ so ≤ 15) ∨ so = 17 then 1 else 0 := by unfold hasV b2i; simp
  rw [hk] at k
  refine v_in ?_
  refine v_load rfl rfl ⟨rfl, Nat.le_of_ble_eq_true rfl⟩ ?_
  refine v_push rfl ?_
  refine v_ilt rfl (fun c1 => ?_) (fun c1 => ?_)
  · refine v_load rfl rfl ⟨rfl, Nat.le_of_ble_eq_true rfl⟩ ?_
    refine v_push rfl ?_
    refine v_ine rfl (fun c2 => ?_) (fun c2 => ?_)
    · refine v_push rfl ?_
      refine v_retz rfl (by first | exact Or.inl rfl | exact Or.inr rfl | exact b2i_01 _ | omega) ?_
      exact qeq k (by split <;> omega)
    · refine v_push rfl ?_
      refine v_goto rfl ?_
      refine v_retz rfl (by first | exact Or.inl rfl | exact Or.inr rfl | exact b2i_01 _ | omega) ?_
      exact qeq k (by split <;> omega)
  · refine v_load rfl rfl ⟨rfl, Nat.le_of_ble_eq_true rfl⟩ ?_
    refine v_push rfl ?_
    refine v_ile rfl (fun c3 => ?_) (fun c3 => ?_)
    · refine v_push rfl ?_
      refine v_goto rfl ?_
      refine v_retz rfl (by first | exact Or.inl rfl | exact Or.inr rfl | exact b2i_01 _ | omega) ?_
      exact qeq k (by split <;> omega)
    · refine v_load rfl rfl ⟨rfl, Nat.le_of_ble_eq_true rfl⟩ ?_
      refine v_push rfl ?_
      refine v_ine rfl (fun c4 => ?_) (fun c4 => ?_)
      · refine v_push rfl ?_
        refine v_retz rfl (by first | exact Or.inl rfl | exact Or.inr rfl | exact b2i_01 _ | omega) ?_
        exact qeq k (by split <;> omega)
      · refine v_push rfl ?_
        refine v_goto rfl ?_
        refine v_retz rfl (by first | exact Or.inl rfl | exact Or.inr rfl | exact b2i_01 _ | omega) ?_
        exact qeq k (by split <;> omega)
theorem S_ofOne {i : Int} (hi : 0 ≤ i ∧ i < ((NT (toks t)).length : Int)) (hV : BV M 2 t 0) (hR : RT (toks t) M) (hN : TN (toks t) M) (hl : t.length ≤ 300) (hW : ∀ x, i < x → x < i + (nd (NT (toks t)) i).2.2.2.1 → M 76 x = V t x) (k : Q (some (1, V t i)) M) : v_call L (d + 3) 116 [(2, 75), (0, i)] M Q := by
  have hlN : (NT (toks t)).length ≤ 1216 := hN.1.2.1
  rw [V_eq hi, ← vst_ext (W := M 76) hi hW] at k
  have p1 := pF_rng t i
  have p2 := pE_rng t i
  have p3 := pF_pE (t := t) i
  refine v_in ?_
  unfold vst at k
  by_cases c1 : (nd (NT (toks t)) i).1 = 13
  · rw [if_pos c1] at k
    refine v_load rfl rfl ⟨rfl, Nat.le_of_ble_eq_true rfl⟩ ?_
    refine v_getp rfl rfl rfl ?_
    refine v_load rfl rfl ⟨rfl, Nat.le_of_ble_eq_true rfl⟩ ?_
    refine v_callr rfl ⟨Nat.le_of_ble_eq_true rfl, Nat.le_of_ble_eq_true rfl, rfl, Nat.le_of_ble_eq_true rfl, rfl⟩ ?_
    refine S_ndSort hN.1 ?_
    rw [c1]
    refine v_tsw rfl ?_
    refine v_load rfl rfl ⟨rfl, Nat.le_of_ble_eq_true rfl⟩ ?_
    refine v_load rfl rfl ⟨rfl, Nat.le_of_ble_eq_true rfl⟩ ?_
    refine v_getp rfl rfl rfl ?_
    refine v_load rfl rfl ⟨rfl, Nat.le_of_ble_eq_true rfl⟩ ?_
    refine v_callr rfl ⟨Nat.le_of_ble_eq_true rfl, Nat.le_of_ble_eq_true rfl, rfl, Nat.le_of_ble_eq_true rfl, rfl⟩ ?_
    refine S_firstOf hR hN hl ?_
    refine v_load rfl rfl ⟨rfl, Nat.le_of_ble_eq_true rfl⟩ ?_
    refine v_getp rfl rfl rfl ?_
    refine v_load rfl rfl ⟨rfl, Nat.le_of_ble_eq_true rfl⟩ ?_
    refine v_callr rfl ⟨Nat.le_of_ble_eq_true rfl, Nat.le_of_ble_eq_true rfl, rfl, Nat.le_of_ble_eq_true rfl, rfl⟩ ?_
    refine S_endOf hV hR hN hl ?_
    refine v_callr rfl ⟨Nat.le_of_ble_eq_true rfl, Nat.le_of_ble_eq_true rfl, rfl, Nat.le_of_ble_eq_true rfl, rfl⟩ ?_
    refine S_ofDigits hV ⟨p1.1, p3⟩ (by omega) ?_
    refine v_ret rfl rfl ?_
    exact k
  · rw [if_neg c1] at k
    by_cases c2 : (nd (NT (toks t)) i).1 = 14
    · rw [if_pos c2] at k
      refine v_load rfl rfl ⟨rfl, Nat.le_of_ble_eq_true rfl⟩ ?_
      refine v_getp rfl rfl rfl ?_
      refine v_load rfl rfl ⟨rfl, Nat.le_of_ble_eq_true rfl⟩ ?_
      refine v_callr rfl ⟨Nat.le_of_ble_eq_true rfl, Nat.le_of_ble_eq_true rfl, rfl, Nat.le_of_ble_eq_true rfl, rfl⟩ ?_
      refine S_ndSort hN.1 ?_
      rw [c2]
      refine v_tsw rfl ?_
      refine v_load rfl rfl ⟨rfl, Nat.le_of_ble_eq_true rfl⟩ ?_
      refine v_getp rfl rfl rfl ?_
      refine v_load rfl rfl ⟨rfl, Nat.le_of_ble_eq_true rfl⟩ ?_
      refine v_callr rfl ⟨Nat.le_of_ble_eq_true rfl, Nat.le_of_ble_eq_true rfl, rfl, Nat.le_of_ble_eq_true rfl, rfl⟩ ?_
      refine S_endOf hV hR hN hl ?_
      refine v_load rfl rfl ⟨rfl, Nat.le_of_ble_eq_true rfl⟩ ?_
      refine v_getp rfl rfl rfl ?_
      refine v_load rfl rfl ⟨rfl, Nat.le_of_ble_eq_true rfl⟩ ?_
      refine v_callr rfl ⟨Nat.le_of_ble_eq_true rfl, Nat.le_of_ble_eq_true rfl, rfl, Nat.le_of_ble_eq_true rfl, rfl⟩ ?_
      refine S_firstOf hR hN hl ?_
      refine v_sub rfl (by omega) ?_
      refine v_push rfl ?_
      refine v_sub rfl (by omega) ?_
      refine v_i2l rfl ?_
      refine v_ret rfl rfl ?_
      exact k
    · rw [if_neg c2] at k
      by_cases c3 : (nd (NT (toks t)) i).1 = 15
      · have k3 := (kids3 hi (Or.inl c3)).1
        have q1 := kid_in (t := t) (i := i) (k := 1) ⟨by omega, by omega⟩
        rw [if_pos c3] at k
        refine v_load rfl rfl ⟨rfl, Nat.le_of_ble_eq_true rfl⟩ ?_
        refine v_getp rfl rfl rfl ?_
        refine v_load rfl rfl ⟨rfl, Nat.le_of_ble_eq_true rfl⟩ ?_
        refine v_callr rfl ⟨Nat.le_of_ble_eq_true rfl, Nat.le_of_ble_eq_true rfl, rfl, Nat.le_of_ble_eq_true rfl, rfl⟩ ?_
        refine S_ndSort hN.1 ?_
        rw [c3]
        refine v_tsw rfl ?_
        refine v_load rfl rfl ⟨rfl, Nat.le_of_ble_eq_true rfl⟩ ?_
        refine v_load rfl rfl ⟨rfl, Nat.le_of_ble_eq_true rfl⟩ ?_
        refine v_getp rfl rfl rfl ?_
        refine v_load rfl rfl ⟨rfl, Nat.le_of_ble_eq_true rfl⟩ ?_
        refine v_push rfl ?_
        refine v_callr rfl ⟨Nat.le_of_ble_eq_true rfl, Nat.le_of_ble_eq_true rfl, rfl, Nat.le_of_ble_eq_true rfl, rfl⟩ ?_
        refine S_kidOf hN.1 hlN ?_
        refine v_callr rfl ⟨Nat.le_of_ble_eq_true rfl, Nat.le_of_ble_eq_true rfl, rfl, Nat.le_of_ble_eq_true rfl, rfl⟩ ?_
        refine S_known ⟨by omega, by omega⟩ ?_
        refine v_ret rfl rfl ?_
        exact k
      · rw [if_neg c3] at k
        by_cases c4 : (nd (NT (toks t)) i).1 = 10 ∨ (nd (NT (toks t)) i).1 = 11
        · have k3 := (kids3 hi (Or.inr c4)).1
          have q0 := kid_in (t := t) (i := i) (k := 0) ⟨by omega, by omega⟩
          have q2 := kid_in (t := t) (i := i) (k := 2) ⟨by omega, by omega⟩
          rw [if_pos c4] at k
          rcases c4 with c4 | c4
          · refine v_load rfl rfl ⟨rfl, Nat.le_of_ble_eq_true rfl⟩ ?_
            refine v_getp rfl rfl rfl ?_
            refine v_load rfl rfl ⟨rfl, Nat.le_of_ble_eq_true rfl⟩ ?_
            refine v_callr rfl ⟨Nat.le_of_ble_eq_true rfl, Nat.le_of_ble_eq_true rfl, rfl, Nat.le_of_ble_eq_true rfl, rfl⟩ ?_
            refine S_ndSort hN.1 ?_
            rw [c4]
            refine v_tsw rfl ?_
            refine v_load rfl rfl ⟨rfl, Nat.le_of_ble_eq_true rfl⟩ ?_
            refine v_getp rfl rfl rfl ?_
            refine v_load rfl rfl ⟨rfl, Nat.le_of_ble_eq_true rfl⟩ ?_
            refine v_getp rfl rfl rfl ?_
            refine v_load rfl rfl ⟨rfl, Nat.le_of_ble_eq_true rfl⟩ ?_
            refine v_push rfl ?_
            refine v_callr rfl ⟨Nat.le_of_ble_eq_true rfl, Nat.le_of_ble_eq_true rfl, rfl, Nat.le_of_ble_eq_true rfl, rfl⟩ ?_
            refine S_kidOf hN.1 hlN ?_
            refine v_callr rfl ⟨Nat.le_of_ble_eq_true rfl, Nat.le_of_ble_eq_true rfl, rfl, Nat.le_of_ble_eq_true rfl, rfl⟩ ?_
            refine S_ndSign hN.1 ?_
            refine v_load rfl rfl ⟨rfl, Nat.le_of_ble_eq_true rfl⟩ ?_
            refine v_load rfl rfl ⟨rfl, Nat.le_of_ble_eq_true rfl⟩ ?_
            refine v_getp rfl rfl rfl ?_
            refine v_load rfl rfl ⟨rfl, Nat.le_of_ble_eq_true rfl⟩ ?_
            refine v_push rfl ?_
            refine v_callr rfl ⟨Nat.le_of_ble_eq_true rfl, Nat.le_of_ble_eq_true rfl, rfl, Nat.le_of_ble_eq_true rfl, rfl⟩ ?_
            refine S_kidOf hN.1 hlN ?_
            refine v_callr rfl ⟨Nat.le_of_ble_eq_true rfl, Nat.le_of_ble_eq_true rfl, rfl, Nat.le_of_ble_eq_true rfl, rfl⟩ ?_
            refine S_known ⟨by omega, by omega⟩ ?_
            refine v_load rfl rfl ⟨rfl, Nat.le_of_ble_eq_true rfl⟩ ?_
            refine v_load rfl rfl ⟨rfl, Nat.le_of_ble_eq_true rfl⟩ ?_
            refine v_getp rfl rfl rfl ?_
            refine v_load rfl rfl ⟨rfl, Nat.le_of_ble_eq_true rfl⟩ ?_
            refine v_push rfl ?_
            refine v_callr rfl ⟨Nat.le_of_ble_eq_true rfl, Nat.le_of_ble_eq_true rfl, rfl, Nat.le_of_ble_eq_true rfl, rfl⟩ ?_
            refine S_kidOf hN.1 hlN ?_
            refine v_callr rfl ⟨Nat.le_of_ble_eq_true rfl, Nat.le_of_ble_eq_true rfl, rfl, Nat.le_of_ble_eq_true rfl, rfl⟩ ?_
            refine S_known ⟨by omega, by omega⟩ ?_
            refine v_callr rfl ⟨Nat.le_of_ble_eq_true rfl, Nat.le_of_ble_eq_true rfl, rfl, Nat.le_of_ble_eq_true rfl, rfl⟩ ?_
            refine S_joined ?_
            refine v_ret rfl rfl ?_
            exact k
          · refine v_load rfl rfl ⟨rfl, Nat.le_of_ble_eq_true rfl⟩ ?_
            refine v_getp rfl rfl rfl ?_
            refine v_load rfl rfl ⟨rfl, Nat.le_of_ble_eq_true rfl⟩ ?_
            refine v_callr rfl ⟨Nat.le_of_ble_eq_true rfl, Nat.le_of_ble_eq_true rfl, rfl, Nat.le_of_ble_eq_true rfl, rfl⟩ ?_
            refine S_ndSort hN.1 ?_
            rw [c4]
            refine v_tsw rfl ?_
            refine v_load rfl rfl ⟨rfl, Nat.le_of_ble_eq_true rfl⟩ ?_
            refine v_getp rfl rfl rfl ?_
            refine v_load rfl rfl ⟨rfl, Nat.le_of_ble_eq_true rfl⟩ ?_
            refine v_getp rfl rfl rfl ?_
            refine v_load rfl rfl ⟨rfl, Nat.le_of_ble_eq_true rfl⟩ ?_
            refine v_push rfl ?_
            refine v_callr rfl ⟨Nat.le_of_ble_eq_true rfl, Nat.le_of_ble_eq_true rfl, rfl, Nat.le_of_ble_eq_true rfl, rfl⟩ ?_
            refine S_kidOf hN.1 hlN ?_
            refine v_callr rfl ⟨Nat.le_of_ble_eq_true rfl, Nat.le_of_ble_eq_true rfl, rfl, Nat.le_of_ble_eq_true rfl, rfl⟩ ?_
            refine S_ndSign hN.1 ?_
            refine v_load rfl rfl ⟨rfl, Nat.le_of_ble_eq_true rfl⟩ ?_
            refine v_load rfl rfl ⟨rfl, Nat.le_of_ble_eq_true rfl⟩ ?_
            refine v_getp rfl rfl rfl ?_
            refine v_load rfl rfl ⟨rfl, Nat.le_of_ble_eq_true rfl⟩ ?_
            refine v_push rfl ?_
            refine v_callr rfl ⟨Nat.le_of_ble_eq_true rfl, Nat.le_of_ble_eq_true rfl, rfl, Nat.le_of_ble_eq_true rfl, rfl⟩ ?_
            refine S_kidOf hN.1 hlN ?_
            refine v_callr rfl ⟨Nat.le_of_ble_eq_true rfl, Nat.le_of_ble_eq_true rfl, rfl, Nat.le_of_ble_eq_true rfl, rfl⟩ ?_
            refine S_known ⟨by omega, by omega⟩ ?_
            refine v_load rfl rfl ⟨rfl, Nat.le_of_ble_eq_true rfl⟩ ?_
            refine v_load rfl rfl ⟨rfl, Nat.le_of_ble_eq_true rfl⟩ ?_
            refine v_getp rfl rfl rfl ?_
            refine v_load rfl rfl ⟨rfl, Nat.le_of_ble_eq_true rfl⟩ ?_
            refine v_push rfl ?_
            refine v_callr rfl ⟨Nat.le_of_ble_eq_true rfl, Nat.le_of_ble_eq_true rfl, rfl, Nat.le_of_ble_eq_true rfl, rfl⟩ ?_
            refine S_kidOf hN.1 hlN ?_
            refine v_callr rfl ⟨Nat.le_of_ble_eq_true rfl, Nat.le_of_ble_eq_true rfl, rfl, Nat.le_of_ble_eq_true rfl, rfl⟩ ?_
            refine S_known ⟨by omega, by omega⟩ ?_
            refine v_callr rfl ⟨Nat.le_of_ble_eq_true rfl, Nat.le_of_ble_eq_true rfl, rfl, Nat.le_of_ble_eq_true rfl, rfl⟩ ?_
            refine S_joined ?_
            refine v_ret rfl rfl ?_
            exact k
        · rw [if_neg c4] at k
          have esw : (z_sw 150 (nd (NT (toks t)) i).1 [(10, 104), (11, 104), (12, 150), (13, 48), (14, 69), (15, 90)]).toNat = 150 := by
            generalize (nd (NT (toks t)) i).1 = so at *
            unfold z_sw; rw [if_neg (by omega)]
            unfold z_sw; rw [if_neg (by omega)]
            unfold z_sw
            by_cases c5 : so = 12
            · rw [if_pos c5]; rfl
            · rw [if_neg c5]
              unfold z_sw; rw [if_neg (by omega)]
              unfold z_sw; rw [if_neg (by omega)]
              unfold z_sw; rw [if_neg (by omega)]
              rfl
          refine v_load rfl rfl ⟨rfl, Nat.le_of_ble_eq_true rfl⟩ ?_
          refine v_getp rfl rfl rfl ?_
          refine v_load rfl rfl ⟨rfl, Nat.le_of_ble_eq_true rfl⟩ ?_
          refine v_callr rfl ⟨Nat.le_of_ble_eq_true rfl, Nat.le_of_ble_eq_true rfl, rfl, Nat.le_of_ble_eq_true rfl, rfl⟩ ?_
          refine S_ndSort hN.1 ?_
          refine v_tsw rfl ?_
          rw [esw]
          refine v_lcon rfl ?_
          refine v_ret rfl rfl ?_
          exact k
theorem S_val_loop {i : Int} (M0 : zM) (hi : 0 ≤ i ∧ i < ((NT (toks t)).length : Int)) (hV : BV M0 2 t 0) (hR : RT (toks t) M0) (hN : TN (toks t) M0) (hl : t.length ≤ 300) (k : ∀ M', z_oR 76 76 M0 M' → Q (some (1, V t i)) M') : ∀ (n : Nat) (x : Int) (Mc : zM), x + 1 = i + (n : Int) → x < i + (nd (NT (toks t)) i).2.2.2.1 → z_oR 76 76 M0 Mc → (∀ y, x < y → y < i + (nd (NT (toks t)) i).2.2.2.1 → Mc 76 y = V t y) → v_wp L (d + 4) 113 31 [(2, 75), (0, i), (0, x)] [] Mc Q := by
  intro n
  have hlN : (NT (toks t)).length ≤ 1216 := hN.1.2.1
  have z := NT_siz hi
  have h76 : (z_sC L 76).2 = 1216 := rfl
  induction n with
  | zero =>
    intro x Mc hx hx' ho hw
    refine v_load rfl rfl ⟨rfl, Nat.le_of_ble_eq_true rfl⟩ ?_
    refine v_load rfl rfl ⟨rfl, Nat.le_of_ble_eq_true rfl⟩ ?_
    refine v_ilt rfl (fun _ => ?_) (fun h => absurd h (by omega))
    refine v_load rfl rfl ⟨rfl, Nat.le_of_ble_eq_true rfl⟩ ?_
    refine v_load rfl rfl ⟨rfl, Nat.le_of_ble_eq_true rfl⟩ ?_
    refine v_callr rfl ⟨Nat.le_of_ble_eq_true rfl, Nat.le_of_ble_eq_true rfl, rfl, Nat.le_of_ble_eq_true rfl, rfl⟩ ?_
    refine S_known ⟨by omega, by omega⟩ ?_
    refine v_ret rfl rfl ?_
    rw [hw i (by omega) (by omega)]
    exact k Mc ho
  | succ n ih =>
    intro x Mc hx hx' ho hw
    have hxi : 0 ≤ x ∧ x < ((NT (toks t)).length : Int) := ⟨by omega, by omega⟩
    have hle : x + (nd (NT (toks t)) x).2.2.2.1 ≤ i + (nd (NT (toks t)) i).2.2.2.1 := by
      by_cases c : x = i
      · rw [c]; omega
      · exact (nest hi ⟨by omega, hx'⟩).2.1
    refine v_load rfl rfl ⟨rfl, Nat.le_of_ble_eq_true rfl⟩ ?_
    refine v_load rfl rfl ⟨rfl, Nat.le_of_ble_eq_true rfl⟩ ?_
    refine v_ilt rfl (fun h => absurd h (by omega)) (fun _ => ?_)
    refine v_load rfl rfl ⟨rfl, Nat.le_of_ble_eq_true rfl⟩ ?_
    refine v_iflt rfl (fun h => absurd h (by omega)) (fun _ => ?_)
    refine v_load rfl rfl ⟨rfl, Nat.le_of_ble_eq_true rfl⟩ ?_
    refine v_load rfl rfl ⟨rfl, Nat.le_of_ble_eq_true rfl⟩ ?_
    refine v_getp rfl rfl rfl ?_
    refine v_len rfl ⟨Nat.le_of_ble_eq_true rfl, Nat.le_of_ble_eq_true rfl⟩ rfl ?_
    refine v_ige rfl (fun h => absurd h (by rw [h76]; omega)) (fun _ => ?_)
    refine v_load rfl rfl ⟨rfl, Nat.le_of_ble_eq_true rfl⟩ ?_
    refine v_getp rfl rfl rfl ?_
    refine v_load rfl rfl ⟨rfl, Nat.le_of_ble_eq_true rfl⟩ ?_
    refine v_load rfl rfl ⟨rfl, Nat.le_of_ble_eq_true rfl⟩ ?_
    refine v_load rfl rfl ⟨rfl, Nat.le_of_ble_eq_true rfl⟩ ?_
    refine v_callr rfl ⟨Nat.le_of_ble_eq_true rfl, Nat.le_of_ble_eq_true rfl, rfl, Nat.le_of_ble_eq_true rfl, rfl⟩ ?_
    refine S_ofOne hxi (BV_oR hV ho (by decide)) (RT_oR hR ho (by decide)) (TN_oR hN ho (by decide)) hl (fun y h1 h2 => hw y h1 (by omega)) ?_
    refine v_ast10 rfl rfl (by decide) ⟨by omega, by show _ < (1216 : Int); omega⟩ ?_
    refine v_iinc rfl rfl rfl (by omega) rfl ?_
    refine v_goto rfl ?_
    refine ih _ _ (by omega) (by omega) (z_oR_tr ho (z_oR_u (by decide))) (fun y h1 h2 => ?_)
    by_cases c : y = x
    · rw [c, u_eq]
    · rw [u_n2 c]; exact hw y (by omega) h2
theorem S_value {i : Int} (hC : CS s M) (hB : BS s n) (k : ∀ M', CS s M' → z_oR 1 76 M M' → Q (some (1, valueQ s i)) M') : v_call L (d + 10) 169 [(2, 1), (0, i)] M Q := by
  obtain ⟨h1, -, -, -, h5, h6, -⟩ := id hC
  have hl := hB.1
  have hlN : (NT (toks s.1.1)).length ≤ 1216 := h6.1.2.1
  unfold valueQ at k
  refine v_in ?_
  by_cases c : hasV (nd (NT (toks s.1.1)) i).1 = true
  · have hi := sort_in (t := s.1.1) (i := i) (by have := of_decide_eq_true c; omega)
    have z := NT_siz hi
    rw [if_pos c] at k
    refine v_load rfl rfl ⟨rfl, Nat.le_of_ble_eq_true rfl⟩ ?_
    refine v_getp rfl rfl rfl ?_
    refine v_load rfl rfl ⟨rfl, Nat.le_of_ble_eq_true rfl⟩ ?_
    refine v_callr rfl ⟨Nat.le_of_ble_eq_true rfl, Nat.le_of_ble_eq_true rfl, rfl, Nat.le_of_ble_eq_true rfl, rfl⟩ ?_
    refine v_in ?_
    refine v_load rfl rfl ⟨rfl, Nat.le_of_ble_eq_true rfl⟩ ?_
    refine v_getp rfl rfl rfl ?_
    refine v_load rfl rfl ⟨rfl, Nat.le_of_ble_eq_true rfl⟩ ?_
    refine v_callr rfl ⟨Nat.le_of_ble_eq_true rfl, Nat.le_of_ble_eq_true rfl, rfl, Nat.le_of_ble_eq_true rfl, rfl⟩ ?_
    refine S_ndSort h6.1 ?_
    refine v_callr rfl ⟨Nat.le_of_ble_eq_true rfl, Nat.le_of_ble_eq_true rfl, rfl, Nat.le_of_ble_eq_true rfl, rfl⟩ ?_
    refine S_hasWorth ?_
    rw [b2i_t c]
    refine v_ifne rfl (fun _ => ?_) (fun h => absurd h (by decide))
    refine v_load rfl rfl ⟨rfl, Nat.le_of_ble_eq_true rfl⟩ ?_
    refine v_load rfl rfl ⟨rfl, Nat.le_of_ble_eq_true rfl⟩ ?_
    refine v_getp rfl rfl rfl ?_
    refine v_load rfl rfl ⟨rfl, Nat.le_of_ble_eq_true rfl⟩ ?_
    refine v_callr rfl ⟨Nat.le_of_ble_eq_true rfl, Nat.le_of_ble_eq_true rfl, rfl, Nat.le_of_ble_eq_true rfl, rfl⟩ ?_
    refine S_ndSiz h6.1 ?_
    refine v_add rfl (by omega) ?_
    refine v_push rfl ?_
    refine v_sub rfl (by omega) ?_
    refine v_store rfl ⟨rfl, Nat.le_of_ble_eq_true rfl, Nat.le_of_ble_eq_true rfl, rfl⟩ rfl ?_
    refine S_val_loop (d := d + 5) M hi h1 h5 h6 hl (fun M' ho => ?_) (nd (NT (toks s.1.1)) i).2.2.2.1.toNat _ M (by omega) (by omega) (fun b j _ => rfl) (fun y h1 h2 => by omega)
    refine v_ret rfl rfl ?_
    exact k M' (CI_oR hC ho (by decide)) (z_oR_w ho (by decide) (by decide))
  · rw [if_neg c] at k
    refine v_load rfl rfl ⟨rfl, Nat.le_of_ble_eq_true rfl⟩ ?_
    refine v_getp rfl rfl rfl ?_
    refine v_load rfl rfl ⟨rfl, Nat.le_of_ble_eq_true rfl⟩ ?_
    refine v_callr rfl ⟨Nat.le_of_ble_eq_true rfl, Nat.le_of_ble_eq_true rfl, rfl, Nat.le_of_ble_eq_true rfl, rfl⟩ ?_
    refine v_in ?_
    refine v_load rfl rfl ⟨rfl, Nat.le_of_ble_eq_true rfl⟩ ?_
    refine v_getp rfl rfl rfl ?_
    refine v_load rfl rfl ⟨rfl, Nat.le_of_ble_eq_true rfl⟩ ?_
    refine v_callr rfl ⟨Nat.le_of_ble_eq_true rfl, Nat.le_of_ble_eq_true rfl, rfl, Nat.le_of_ble_eq_true rfl, rfl⟩ ?_
    refine S_ndSort h6.1 ?_
    refine v_callr rfl ⟨Nat.le_of_ble_eq_true rfl, Nat.le_of_ble_eq_true rfl, rfl, Nat.le_of_ble_eq_true rfl, rfl⟩ ?_
    refine S_hasWorth ?_
    rw [b2i_f c]
    refine v_ifne rfl (fun h => absurd h (by decide)) (fun _ => ?_)
    refine v_lcon rfl ?_
    refine v_ret rfl rfl ?_
    refine v_ret rfl rfl ?_
    exact k M hC (fun b j _ => rfl)
end QJ
