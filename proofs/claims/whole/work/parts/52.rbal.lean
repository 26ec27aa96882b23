/-! THE REFERENCE'S BALANCE: pieces of powers of two -/
def balT (ts : List (List zN)) : List zN := balF ts.length ts
theorem pw2_eq {n e : Nat} (h1 : 2 ^ e < n) (h2 : n ≤ 2 ^ (e + 1)) : pw2 n = 2 ^ e := by
  unfold pw2
  have hp : 0 < 2 ^ e := Nat.two_pow_pos e
  have h0 : n - 1 ≠ 0 := by omega
  have a1 : e ≤ Nat.log2 (n - 1) := (Nat.le_log2 h0).mpr (by omega)
  have a2 : Nat.log2 (n - 1) < e + 1 := (Nat.log2_lt h0).mpr (by omega)
  rw [show Nat.log2 (n - 1) = e by omega]
theorem gl_app {bs cs : List (List zN)} (h : cs ≠ []) : (bs ++ cs).getLastD [] = cs.getLastD [] := by
  induction bs with
  | nil => rfl
  | cons b bs ih => rw [List.cons_append, gl_cons (by simp [h]), ih]
theorem balT_ends {ts : List (List zN)} (h : ts ≠ []) : nFr (balT ts) = nFr (ts.headD []) ∧ nUp (balT ts) = nUp (ts.getLastD []) := by
  unfold balT
  match ts, h with
  | [t], _ => exact ⟨rfl, rfl⟩
  | t :: u :: r, _ =>
    rw [show (t :: u :: r).length = (r.length + 1) + 1 from rfl, balF_two _ _ (by simp)]
    exact ⟨mkN_fr, mkN_up⟩
theorem balT_join {bs cs : List (List zN)} {e : Nat} (hb : bs.length = 2 ^ e) (hc : 1 ≤ cs.length) (hc2 : cs.length ≤ 2 ^ e) : balT (bs ++ cs) = mkN 1 (nFr (balT bs)) (nUp (balT cs)) 0 [balT bs, balT cs] := by
  have hp : 0 < 2 ^ e := Nat.two_pow_pos e
  have hbn : bs ≠ [] := fun z => by rw [z] at hb; simp at hb; omega
  have hcn : cs ≠ [] := fun z => by rw [z] at hc; simp at hc
  have hl : (bs ++ cs).length = bs.length + cs.length := List.length_append
  obtain ⟨f, hf⟩ : ∃ f, (bs ++ cs).length = f + 1 := ⟨bs.length + cs.length - 1, by omega⟩
  rw [(balT_ends hbn).1, (balT_ends hcn).2]
  unfold balT
  rw [hf, balF_two f _ (by omega), pw2_eq (e := e) (by omega) (by rw [Nat.pow_succ]; omega), ← hb, List.take_left, List.drop_left, gl_app hcn, balF_fuel f bs.length bs (by omega) (Nat.le_refl _) hbn, balF_fuel f cs.length cs (by omega) (Nat.le_refl _) hcn]
  congr 2
  cases bs with
  | nil => exact absurd rfl hbn
  | cons b bs => rfl
theorem bal_T {ts : List (List zN)} (h : ts ≠ []) : bal ts = [balT ts] := by
  cases ts with
  | nil => exact absurd rfl h
  | cons t r => rfl
abbrev zP : Type := Int × zK
def gtH (n : Int) : List zP → Prop
  | [] => True
  | q :: _ => n < q.1
def geH (n : Int) : List zP → Prop
  | [] => True
  | q :: _ => n ≤ q.1
/-- pieces: the last one first -/
def STk : List zP → List (List zN) → Prop
  | [], ts => ts = []
  | p :: qs, ts => ∃ us vs, ∃ e : Nat, ts = us ++ vs ∧ vs.length = 2 ^ e ∧ p.1 = ((2 ^ e : Nat) : Int) ∧ p.2.2.1 = balT vs ∧ STk qs us ∧ gtH p.1 qs
def pcs (M : zM) : List zP → Prop
  | [] => True
  | p :: qs => M 98 (qs.length : Int) = p.2.1 ∧ M 99 (qs.length : Int) = p.1 ∧ pcs M qs
theorem pcs_fr {M M' : zM} : ∀ (qs : List zP), pcs M qs → (∀ b j, b = 98 ∨ b = 99 → j < (qs.length : Int) → M' b j = M b j) → pcs M' qs
  | [], _, _ => trivial
  | p :: qs, h, hk => by
    have hl : (((p :: qs).length : Nat) : Int) = (qs.length : Int) + 1 := by simp
    refine ⟨?_, ?_, pcs_fr qs h.2.2 (fun b j hb hj => hk b j hb (by omega))⟩
    · rw [hk 98 _ (Or.inl rfl) (by omega)]; exact h.1
    · rw [hk 99 _ (Or.inr rfl) (by omega)]; exact h.2.1
theorem pow_step {e e' : Nat} (h : 2 ^ e < 2 ^ e') : 2 * 2 ^ e ≤ 2 ^ e' := by
  have h1 : e < e' := (Nat.pow_lt_pow_iff_right (by decide)).mp h
  have h2 : 2 ^ (e + 1) ≤ 2 ^ e' := Nat.pow_le_pow_right (by decide) h1
  rw [Nat.pow_succ] at h2
  omega
/-- pieces are few -/
theorem STk_few : ∀ (qs : List zP) (p : zP) (ts : List (List zN)), STk (p :: qs) ts → p.1 * (2 ^ (qs.length + 1) - 1 : Nat) ≤ (ts.length : Int)
  | [], p, ts, ⟨us, vs, e, h1, h2, h3, _, h5, _⟩ => by
    rw [show (2 ^ (([] : List zP).length + 1) - 1 : Nat) = 1 from rfl, h3, h1, List.length_append, h2]
    omega
  | q :: qs, p, ts, ⟨us, vs, e, h1, h2, h3, _, h5, h6⟩ => by
    have ih := STk_few qs q us h5
    obtain ⟨us', vs', e', g1, g2, g3, g4, g5, g6⟩ := h5
    have h6 : p.1 < q.1 := h6
    have hq : 2 * p.1 ≤ q.1 := by
      rw [h3, g3] at h6 ⊢
      have := pow_step (e := e) (e' := e') (by omega)
      omega
    rw [h1, List.length_append, h2, List.length_cons]
    have hm : (2 * p.1) * (2 ^ (qs.length + 1) - 1 : Nat) ≤ q.1 * (2 ^ (qs.length + 1) - 1 : Nat) := Int.mul_le_mul_of_nonneg_right hq (by omega)
    have e1 : ((2 ^ (qs.length + 1 + 1) - 1 : Nat) : Int) = 2 * ((2 ^ (qs.length + 1) - 1 : Nat) : Int) + 1 := by
      have := Nat.two_pow_pos (qs.length + 1)
      rw [Nat.pow_succ 2 (qs.length + 1)]
      omega
    rw [e1, Int.mul_add, Int.mul_one]
    have e2 : p.1 * (2 * ((2 ^ (qs.length + 1) - 1 : Nat) : Int)) = (2 * p.1) * ((2 ^ (qs.length + 1) - 1 : Nat) : Int) := by rw [← Int.mul_assoc, Int.mul_comm p.1 2]
    rw [e2]
    omega
theorem STk_len {qs : List zP} {ts : List (List zN)} (h : STk qs ts) (hl : ts.length ≤ 300) : qs.length ≤ 8 := by
  cases qs with
  | nil => simp
  | cons p qs =>
    have h1 := STk_few qs p ts h
    obtain ⟨us, vs, e, -, -, h3, -⟩ := h
    have hp := Nat.two_pow_pos e
    by_cases hc : qs.length + 1 ≤ 8
    · exact hc
    · have h5 : 2 ^ 9 ≤ 2 ^ (qs.length + 1) := Nat.pow_le_pow_right (by decide) (by omega)
      have h6 : (1 : Int) * ((2 ^ (qs.length + 1) - 1 : Nat) : Int) ≤ p.1 * ((2 ^ (qs.length + 1) - 1 : Nat) : Int) := Int.mul_le_mul_of_nonneg_right (by rw [h3]; omega) (by omega)
      omega
/-- drafts that stand by themselves -/
def RWS (lo : Int) (V0 V : zM) (ks : List zK) (h : Int) : Prop := (∀ k ∈ ks, tr V k.1 k.2.1 k.2.2 ∧ V 60 k.1 = -1) ∧ (ids ks).Nodup ∧ (∀ i ∈ ids ks, lo ≤ i ∧ i < h) ∧ FR lo V0 V
def KC (M M' : zM) : Prop := ∀ b j, ¬ (85 ≤ b ∧ b ≤ 92) → b ≠ 98 → b ≠ 99 → (b = 77 → j ≠ 19 ∧ j ≠ 28) → M' b j = M b j
theorem KC_rf {M : zM} : KC M M := fun _ _ _ _ _ _ => rfl
theorem KC_tr {M M1 M2 : zM} (h : KC M M1) (h2 : KC M1 M2) : KC M M2 := fun b j a1 a2 a3 a4 => (h2 b j a1 a2 a3 a4).trans (h b j a1 a2 a3 a4)
theorem KC_KB {M M' : zM} (h : KB M M') : KC M M' := fun b j a1 _ _ a4 => h b j a1 a4
theorem KC_u {M : zM} {b j x : Int} (hb : b = 98 ∨ b = 99) : KC M (z_upd M b j x) := fun c i _ a2 a3 _ => u_n1 (by omega)
theorem KF_KC {op rl : Int} {M M' : zM} (h : KC M M') : KF op rl M M' := ⟨fun b j h1 h2 => h b j (by omega) (by omega) (by omega) (fun e => absurd e h1), fun j h1 h2 => h 77 j (by decide) (by decide) (by decide) (fun _ => ⟨h1, by omega⟩), fun b j h1 h2 _ => h b j (by omega) (by omega) (by omega) (fun e => absurd e (by omega)), fun j _ => h 97 j (by decide) (by decide) (by decide) (fun e => absurd e (by decide))⟩
section RB
variable {L d : Nat} {M V V0 : zM} {Q : Option zV → zM → Prop} {t : List Int} {h a op_ ne rl lo : Int}
theorem R_joins {x y : Int} {τ1 τ2 : List zN} {I1 I2 : List Int} (hK : KS t h a op_ ne rl V M) (h1 : tr V x τ1 I1) (h2 : tr V y τ2 I2) (x60 : V 60 x = -1) (y60 : V 60 y = -1) (hn : (I1 ++ I2).Nodup) (hI : ∀ i ∈ I1 ++ I2, i < h) (hh : h < 1216) (k : ∀ M' V', KS t (h + 1) a op_ ne rl V' M' → tr V' h (mkN 1 (nFr τ1) (nUp τ2) 0 [τ1, τ2]) (h :: (I1 ++ I2)) → V' 60 h = -1 → (∀ b j, b ≠ 52 → (53 ≤ b ∧ b ≤ 60 → j < h ∧ j ≠ x ∧ j ≠ y) → V' b j = V b j) → KB M M' → Q (some (0, h)) M') : v_call L (d + 1) 200 [(2, 77), (0, x), (0, y)] M Q := by
  have hx := hI x (List.mem_append_left _ (tr_mem h1).1)
  have hy := hI y (List.mem_append_right _ (tr_mem h2).1)
  have hx0 := (tr_mem h1).2.1
  have hy0 := (tr_mem h2).2.1
  have hxy : x ≠ y := fun e => (List.nodup_append.mp hn).2.2 _ (tr_mem h1).1 _ (tr_mem h2).1 e
  have hnd2 : (h :: (I1 ++ I2)).Nodup := List.nodup_cons.mpr ⟨fun hm => by have := hI _ hm; omega, hn⟩
  refine v_in ?_
  refine v_load rfl rfl ⟨rfl, Nat.le_of_ble_eq_true rfl⟩ ?_
  refine v_push rfl ?_
  refine v_callr rfl ⟨Nat.le_of_ble_eq_true rfl, Nat.le_of_ble_eq_true rfl, rfl, Nat.le_of_ble_eq_true rfl, rfl⟩ ?_
  refine R_open (nFr τ1) hK hh ⟨rfl, by decide⟩ (by omega) (fun M1 V1 k1 o1 b1 => ?_)
  have t1 : tr V1 x τ1 I1 := tr_fr h1 (fun j hj b b1 b2 _ _ => o1.2.2 b j (by omega) (fun _ => hI j (List.mem_append_left _ hj)))
  have x61 : V1 60 x = -1 := by rw [o1.2.2 60 x (by decide) (fun _ => hx)]; exact x60
  have y61 : V1 60 y = -1 := by rw [o1.2.2 60 y (by decide) (fun _ => hy)]; exact y60
  have n1 : (h :: (ids [] ++ I1)).Nodup := List.nodup_cons.mpr ⟨fun hm => by have := hI _ (List.mem_append_left _ hm); omega, (List.nodup_append.mp hn).1⟩
  refine v_store rfl ⟨rfl, Nat.le_of_ble_eq_true rfl, Nat.le_of_ble_eq_true rfl, rfl⟩ rfl ?_
  refine v_load rfl rfl ⟨rfl, Nat.le_of_ble_eq_true rfl⟩ ?_
  refine v_load rfl rfl ⟨rfl, Nat.le_of_ble_eq_true rfl⟩ ?_
  refine v_load rfl rfl ⟨rfl, Nat.le_of_ble_eq_true rfl⟩ ?_
  refine v_callr rfl ⟨Nat.le_of_ble_eq_true rfl, Nat.le_of_ble_eq_true rfl, rfl, Nat.le_of_ble_eq_true rfl, rfl⟩ ?_
  refine R_addsG o1.1 t1 x61 n1 (fun i hi => by rcases List.mem_cons.mp hi with rfl | hi; omega; have := hI i (List.mem_append_left _ hi); omega) k1 (fun M2 k2 b2 => ?_)
  have o2 := hg_op o1.1 t1 n1
  have v2 : ∀ b j, j ≠ h → j ≠ x → hgV V1 h x [] b j = V1 b j := fun b j j1 j2 => by unfold hgV; simp only [if_true]; simp (disch := assumption) only [u_n2]
  have t2 : tr (hgV V1 h x []) y τ2 I2 := tr_fr h2 (fun j hj b b1 b2 _ _ => by have jh := hI j (List.mem_append_right _ hj); rw [v2 b j (by omega) (fun e => (List.nodup_append.mp hn).2.2 _ (tr_mem h1).1 _ hj e.symm), o1.2.2 b j (by omega) (fun _ => jh)])
  have y62 : hgV V1 h x [] 60 y = -1 := by rw [v2 60 y (by omega) (fun e => hxy e.symm)]; exact y61
  have n2 : (h :: (ids ([] ++ [(x, τ1, I1)]) ++ I2)).Nodup := by simpa [ids] using hnd2
  refine v_load rfl rfl ⟨rfl, Nat.le_of_ble_eq_true rfl⟩ ?_
  refine v_load rfl rfl ⟨rfl, Nat.le_of_ble_eq_true rfl⟩ ?_
  refine v_load rfl rfl ⟨rfl, Nat.le_of_ble_eq_true rfl⟩ ?_
  refine v_callr rfl ⟨Nat.le_of_ble_eq_true rfl, Nat.le_of_ble_eq_true rfl, rfl, Nat.le_of_ble_eq_true rfl, rfl⟩ ?_
  refine R_addsG o2 t2 y62 n2 (fun i hi => by rcases List.mem_cons.mp hi with rfl | hi; omega; have := hI i (by simpa [ids] using hi); omega) k2 (fun M3 k3 b3 => ?_)
  refine v_load rfl rfl ⟨rfl, Nat.le_of_ble_eq_true rfl⟩ ?_
  refine v_ret rfl rfl ?_
  have o3 := hg_op o2 t2 n2
  have v3 : ∀ b j, j ≠ h → j ≠ x → j ≠ y → hgV (hgV V1 h x []) h y ([] ++ [(x, τ1, I1)]) b j = V1 b j := fun b j j1 j2 j3 => by
    rw [← v2 b j j1 j2]
    generalize hgV V1 h x [] = W
    unfold hgV
    simp only [List.nil_append, List.cons_ne_nil, if_false, lst]
    simp (disch := assumption) only [u_n2]
  have v4 : ∀ b j, ¬ (53 ≤ b ∧ b ≤ 60) → hgV (hgV V1 h x []) h y ([] ++ [(x, τ1, I1)]) b j = V1 b j := fun b j hb => by
    unfold hgV
    simp only [List.nil_append, List.cons_ne_nil, if_false, if_true, lst]
    simp (disch := omega) only [u_n1]
  have r4 := g_shut (lo := 0) (V0 := V) (h := h + 1) (up := nUp τ2) ⟨o3, fun i hi => ?_, ?_⟩
  · refine k M3 _ (KS_55 k3) ?_ r4.2.2.2 ?_ (KB_tr b1 (KB_tr b2 b3))
    · have := r4.1
      simpa [trs, ids] using this
    · intro b j hb hj
      by_cases e : 53 ≤ b ∧ b ≤ 60
      · obtain ⟨j1, j2, j3⟩ := hj e
        rw [u_n2 (by omega), v3 b j (by omega) j2 j3, o1.2.2 b j hb (fun _ => j1)]
      · rw [u_n1 (by omega), v4 b j e, o1.2.2 b j hb (fun z => absurd z e)]
  · rcases List.mem_cons.mp hi with rfl | hi
    · omega
    · have hm : i ∈ I1 ++ I2 := by simpa [ids] using hi
      have := hI i hm
      rcases List.mem_append.mp hm with hm | hm
      · obtain ⟨_, _, _, _, cs, Ic, -, -, -, -, -, hf, -, rfl, -⟩ := h1
        rcases List.mem_cons.mp hm with rfl | hm
        · omega
        · have := fo_pos hf i hm; omega
      · obtain ⟨_, _, _, _, cs, Ic, -, -, -, -, -, hf, -, rfl, -⟩ := h2
        rcases List.mem_cons.mp hm with rfl | hm
        · omega
        · have := fo_pos hf i hm; omega
  · intro b j hb hj
    by_cases e : 53 ≤ b ∧ b ≤ 60
    · have := hj e
      rw [v3 b j (by omega) (by omega) (by omega), o1.2.2 b j hb (fun _ => by omega)]
    · rw [v4 b j e, o1.2.2 b j hb (fun z => absurd z e)]
end RB
