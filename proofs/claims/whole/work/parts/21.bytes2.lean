/-- what a row of bytes holds: its bytes, whether some were spilled -/
def BV (M : zM) (a : Int) (l : List Int) (s : Int) : Prop := M a 1 = (l.length : Int) ∧ l.length ≤ 300 ∧ (∀ i : Nat, i < l.length → M (a + 1) (i : Int) = l.getD i 0) ∧ M a 2 = s ∧ (s = 0 ∨ s = 1)
def z_o2 (a : Int) (M M' : zM) : Prop := ∀ b j, b ≠ a → b ≠ a + 1 → M' b j = M b j
theorem z_o2_rf {a : Int} {M : zM} : z_o2 a M M := fun _ _ _ _ => rfl
theorem z_o2_tr {a : Int} {M M1 M2 : zM} (h : z_o2 a M M1) (h2 : z_o2 a M1 M2) : z_o2 a M M2 := fun b j h3 h4 => (h2 b j h3 h4).trans (h b j h3 h4)
theorem z_isB_ne {a b : Int} (ha : z_isB a) (hb : z_isB b) : a ≠ b + 1 := by
  unfold z_isB at ha hb
  omega
/-- a receiver that is a row of bytes -/
theorem z_rB {L : Nat} {M : zM} {a : Int} {as : List zV} (h : z_isB a) : z_rcv (z_N0, z_S0, z_sC L, M) 0 ((2, a) :: as) = true := by
  obtain ⟨h0, -, -, -, -, hp⟩ := z_B (L := L) h
  show (if (0 : Int) = -1 then true else decide (0 < a ∧ ((z_sC L a).1 : Int) = 0)) = true
  rw [if_neg (by decide), h0]
  simp [hp]
theorem z_ne1 {a : Int} : a + 1 ≠ a := by omega
theorem g_app1 {l m : List Int} {i : Nat} (h : i < l.length) : (l ++ m).getD i 0 = l.getD i 0 := by
  rw [List.getD_eq_getElem?_getD, List.getD_eq_getElem?_getD, List.getElem?_append_left h]
theorem g_app2 {l : List Int} {y : Int} : (l ++ [y]).getD l.length 0 = y := by
  rw [List.getD_eq_getElem?_getD, List.getElem?_append_right (Nat.le_refl _)]
  simp
def b_push (v : List Int × Int) (x : Int) : List Int × Int := if v.1.length < 300 then (v.1 ++ [x % 256], v.2) else (v.1, 1)
def b_app (v : List Int × Int) (xs : List Int) : List Int × Int := xs.foldl b_push v
theorem b_app_cons (v : List Int × Int) (x : Int) (xs : List Int) : b_app v (x :: xs) = b_app (b_push v x) xs := rfl
theorem BV_kept {M M' : zM} {a b : Int} {l : List Int} {s : Int} (h : BV M b l s) (ho : z_o2 a M M') (ha : z_isB a) (hb : z_isB b) (hn : b ≠ a) : BV M' b l s := by
  have h1 : b ≠ a + 1 := z_isB_ne hb ha
  have h2 : b + 1 ≠ a := fun z => z_isB_ne ha hb z.symm
  refine ⟨by rw [ho b 1 hn h1]; exact h.1, h.2.1, fun i hi => by rw [ho (b + 1) i h2 (by omega)]; exact h.2.2.1 i hi, by rw [ho b 2 hn h1]; exact h.2.2.2.1, h.2.2.2.2⟩
theorem BV_at {M : zM} {a : Int} {l : List Int} {s : Int} (h : BV M a l s) (i : Nat) (hi : i < l.length) : z_at M a (i : Int) = l.getD i 0 := by
  unfold z_at
  have h1 := h.1
  have h2 := h.2.1
  rw [if_pos (by omega)]
  exact h.2.2.1 i hi
theorem BV_out {M : zM} {a : Int} {l : List Int} {s : Int} (h : BV M a l s) {i : Int} (hi : i < 0 ∨ (l.length : Int) ≤ i) : z_at M a i = -1 := by
  unfold z_at
  have h1 := h.1
  rw [if_neg (by omega)]
section BY
variable {L d : Nat} {M : zM} {Q : Option zV → zM → Prop} {a : Int}
theorem S_clear (hB : z_isB a) (k : ∀ M', BV M' a [] 0 → z_o2 a M M' → Q none M') : v_call L d 4 [(2, a)] M Q := by
  obtain ⟨h0, h1, p0, p1, p2, hp⟩ := z_B (L := L) hB
  have hk : ((z_sC L a).1 : Int) = 0 := by rw [h0]; rfl
  refine v_in ?_
  repeat' (first
    | refine v_puti rfl hk p1 ?_
    | refine v_putz rfl hk (by decide) p2 ?_
    | refine v_load rfl rfl ⟨rfl, Nat.le_of_ble_eq_true rfl⟩ ?_
    | refine v_getp rfl rfl rfl ?_
    | refine v_geti rfl rfl ?_
    | refine v_push rfl ?_
    | refine v_goto rfl ?_
    | refine v_ret rfl rfl ?_
    | refine v_store rfl ⟨rfl, Nat.le_of_ble_eq_true rfl, Nat.le_of_ble_eq_true rfl, rfl⟩ rfl ?_
    | refine v_iinc rfl rfl rfl (by omega) rfl ?_
    | refine v_add rfl (by omega) ?_
    | refine v_sub rfl (by omega) ?_
    | refine v_ige rfl (fun _ => ?_) (fun _ => ?_)
    | refine v_ine rfl (fun _ => ?_) (fun _ => ?_)
    | refine v_ifeq rfl (fun _ => ?_) (fun _ => ?_)
    | refine v_ifne rfl (fun _ => ?_) (fun _ => ?_)
    | refine v_ieq rfl (fun _ => ?_) (fun _ => ?_)
    | refine v_iflt rfl (fun _ => ?_) (fun _ => ?_)
    | refine v_ile rfl (fun _ => ?_) (fun _ => ?_)
    | refine v_ilt rfl (fun _ => ?_) (fun _ => ?_)
    | refine v_igt rfl (fun _ => ?_) (fun _ => ?_)
    | refine v_ifle rfl (fun _ => ?_) (fun _ => ?_)
    | refine v_ifge rfl (fun _ => ?_) (fun _ => ?_)
    | refine v_ifgt rfl (fun _ => ?_) (fun _ => ?_)
    | refine v_ald9 rfl rfl (by refine ⟨?_, ?_⟩ <;> first | omega | (show _ < (300 : Int); omega) | (show _ < (1216 : Int); omega) | (show _ < (1600 : Int); omega) | (show _ < (301 : Int); omega) | (show _ < (18 : Int); omega) | (show _ < (100 : Int); omega) | (show _ < (20 : Int); omega) | (show _ < (13 : Int); omega) | (show _ < (3612 : Int); omega)) ?_
    | refine v_ast9 rfl rfl (by decide) (by refine ⟨?_, ?_⟩ <;> first | omega | (show _ < (300 : Int); omega) | (show _ < (1216 : Int); omega) | (show _ < (1600 : Int); omega) | (show _ < (301 : Int); omega) | (show _ < (18 : Int); omega) | (show _ < (100 : Int); omega) | (show _ < (20 : Int); omega) | (show _ < (13 : Int); omega) | (show _ < (3612 : Int); omega)) ?_
    | refine v_puti rfl rfl rfl ?_
    | refine v_len rfl ⟨Nat.le_of_ble_eq_true rfl, Nat.le_of_ble_eq_true rfl⟩ rfl ?_
    | refine v_getz rfl rfl ?_
    | refine v_getl rfl rfl ?_
    | refine v_dup rfl (Or.inl rfl) ?_
    | refine v_dup rfl (Or.inr rfl) ?_
    | refine v_pop rfl (Or.inl rfl) ?_
    | refine v_callr rfl ⟨Nat.le_of_ble_eq_true rfl, Nat.le_of_ble_eq_true rfl, rfl, Nat.le_of_ble_eq_true rfl, rfl⟩ ?_)
  refine k _ ⟨by simp [z_upd], by simp, fun i hi => absurd hi (by simp), by simp [z_upd], Or.inl rfl⟩ (fun b j h1 h2 => by simp [z_upd, h1])
theorem S_add {x : Int} {l : List Int} {s : Int} (hB : z_isB a) (hV : BV M a l s) (k : ∀ M', BV M' a (b_push (l, s) x).1 (b_push (l, s) x).2 → z_o2 a M M' → Q none M') : v_call L d 5 [(2, a), (0, x)] M Q := by
  obtain ⟨h0, h1, p0, p1, p2, hp⟩ := z_B (L := L) hB
  have hk : ((z_sC L a).1 : Int) = 0 := by rw [h0]; rfl
  have hk1 : (z_sC L (a + 1)).1 = 9 := by rw [h1]
  have hl1 : ((z_sC L (a + 1)).2 : Int) = 300 := by rw [h1]; rfl
  obtain ⟨v1, v2, v3, v4, v5⟩ := hV
  refine v_in ?_
  refine v_load rfl rfl ⟨rfl, Nat.le_of_ble_eq_true rfl⟩ ?_
  refine v_geti rfl hk ?_
  refine v_iflt rfl (fun _ => by omega) (fun _ => ?_)
  refine v_load rfl rfl ⟨rfl, Nat.le_of_ble_eq_true rfl⟩ ?_
  refine v_geti rfl hk ?_
  refine v_load rfl rfl ⟨rfl, Nat.le_of_ble_eq_true rfl⟩ ?_
  refine v_getp rfl hk p0 ?_
  refine v_len rfl ⟨by omega, by omega⟩ hl1 ?_
  refine v_ige rfl (fun hge => ?_) (fun hlt => ?_)
  · refine v_load rfl rfl ⟨rfl, Nat.le_of_ble_eq_true rfl⟩ ?_
    refine v_push rfl ?_
    refine v_putz rfl hk (by decide) p2 ?_
    refine v_ret rfl rfl ?_
    have hf : ¬ l.length < 300 := by omega
    unfold b_push at k
    rw [if_neg hf] at k
    exact k _ ⟨by rw [u_n2 (by omega)]; exact v1, v2, fun i hi => by rw [u_n1 (by omega)]; exact v3 i hi, u_eq, Or.inr rfl⟩ (fun b j q1 q2 => u_n1 q1)
  · refine v_load rfl rfl ⟨rfl, Nat.le_of_ble_eq_true rfl⟩ ?_
    refine v_getp rfl hk p0 ?_
    refine v_load rfl rfl ⟨rfl, Nat.le_of_ble_eq_true rfl⟩ ?_
    refine v_geti rfl hk ?_
    refine v_load rfl rfl ⟨rfl, Nat.le_of_ble_eq_true rfl⟩ ?_
    refine v_push rfl ?_
    refine v_alu rfl rfl ?_
    refine v_ast9 rfl hk1 (by omega) ⟨by omega, by omega⟩ ?_
    have e1 : z_upd M (a + 1) (M a 1) (x % 256) a 1 = M a 1 := by
      unfold z_upd
      rw [if_neg (by omega)]
    refine v_load rfl rfl ⟨rfl, Nat.le_of_ble_eq_true rfl⟩ ?_
    refine v_dup rfl (Or.inr rfl) ?_
    refine v_geti rfl hk ?_
    rw [e1]
    refine v_push rfl ?_
    refine v_add rfl (by omega) ?_
    refine v_puti rfl hk p1 ?_
    refine v_goto rfl ?_
    refine v_ret rfl rfl ?_
    have hf : l.length < 300 := by omega
    unfold b_push at k
    rw [if_pos hf] at k
    refine k _ ⟨by rw [u_eq, v1]; simp, by simp; omega, fun i hi => ?_, by rw [u_n2 (by omega), u_n1 (by omega)]; exact v4, v5⟩ (fun b j q1 q2 => by rw [u_n1 q1, u_n1 q2])
    rw [u_n1 (by omega), v1]
    by_cases e : i = l.length
    · subst e
      rw [u_eq, g_app2]
    · have hi2 : i < l.length := by simp at hi; omega
      rw [u_n2 (by omega), v3 i hi2, g_app1 hi2]
/-- the loop of addFrom -/
theorem S_addFrom_loop {o fr up : Int} {lo : List Int} {so : Int} (hB : z_isB a) (hO : z_isB o) (hao : o ≠ a) (hup : 0 ≤ up ∧ up ≤ (lo.length : Int)) :
    ∀ (n : Nat) (i : Int) (M : zM) (l : List Int) (s : Int), 0 ≤ i → n = (up - i).toNat → BV M a l s → BV M o lo so → (∀ M', BV M' a (b_app (l, s) ((lo.take up.toNat).drop i.toNat)).1 (b_app (l, s) ((lo.take up.toNat).drop i.toNat)).2 → z_o2 a M M' → Q none M') →
    v_wp L (d + 1) 7 3 [(2, a), (2, o), (0, fr), (0, up), (0, i)] [] M Q := by
  intro n
  induction n with
  | zero =>
    intro i M l s h0 hn hV hW k
    repeat' (first
      | exfalso; omega
      | refine v_load rfl rfl ⟨rfl, Nat.le_of_ble_eq_true rfl⟩ ?_
      | refine v_getp rfl rfl rfl ?_
      | refine v_geti rfl rfl ?_
      | refine v_push rfl ?_
      | refine v_goto rfl ?_
      | refine v_ret rfl rfl ?_
      | refine v_store rfl ⟨rfl, Nat.le_of_ble_eq_true rfl, Nat.le_of_ble_eq_true rfl, rfl⟩ rfl ?_
      | refine v_iinc rfl rfl rfl (by omega) rfl ?_
      | refine v_add rfl (by omega) ?_
      | refine v_sub rfl (by omega) ?_
      | refine v_ige rfl (fun _ => ?_) (fun _ => ?_)
      | refine v_ine rfl (fun _ => ?_) (fun _ => ?_)
      | refine v_ifeq rfl (fun _ => ?_) (fun _ => ?_)
      | refine v_ifne rfl (fun _ => ?_) (fun _ => ?_)
      | refine v_ieq rfl (fun _ => ?_) (fun _ => ?_)
      | refine v_iflt rfl (fun _ => ?_) (fun _ => ?_)
      | refine v_ile rfl (fun _ => ?_) (fun _ => ?_)
      | refine v_ilt rfl (fun _ => ?_) (fun _ => ?_)
      | refine v_igt rfl (fun _ => ?_) (fun _ => ?_)
      | refine v_ifle rfl (fun _ => ?_) (fun _ => ?_)
      | refine v_ifge rfl (fun _ => ?_) (fun _ => ?_)
      | refine v_ifgt rfl (fun _ => ?_) (fun _ => ?_)
      | refine v_ald9 rfl rfl (by refine ⟨?_, ?_⟩ <;> first | omega | (show _ < (300 : Int); omega) | (show _ < (1216 : Int); omega) | (show _ < (1600 : Int); omega) | (show _ < (301 : Int); omega) | (show _ < (18 : Int); omega) | (show _ < (100 : Int); omega) | (show _ < (20 : Int); omega) | (show _ < (13 : Int); omega) | (show _ < (3612 : Int); omega)) ?_
      | refine v_ast9 rfl rfl (by decide) (by refine ⟨?_, ?_⟩ <;> first | omega | (show _ < (300 : Int); omega) | (show _ < (1216 : Int); omega) | (show _ < (1600 : Int); omega) | (show _ < (301 : Int); omega) | (show _ < (18 : Int); omega) | (show _ < (100 : Int); omega) | (show _ < (20 : Int); omega) | (show _ < (13 : Int); omega) | (show _ < (3612 : Int); omega)) ?_
      | refine v_puti rfl rfl rfl ?_
      | refine v_len rfl ⟨Nat.le_of_ble_eq_true rfl, Nat.le_of_ble_eq_true rfl⟩ rfl ?_
      | refine v_getz rfl rfl ?_
      | refine v_getl rfl rfl ?_
      | refine v_dup rfl (Or.inl rfl) ?_
      | refine v_dup rfl (Or.inr rfl) ?_
      | refine v_pop rfl (Or.inl rfl) ?_
      | refine v_callr rfl ⟨Nat.le_of_ble_eq_true rfl, Nat.le_of_ble_eq_true rfl, rfl, Nat.le_of_ble_eq_true rfl, rfl⟩ ?_)
    all_goals first | omega | skip
    have hd : (lo.take up.toNat).drop i.toNat = [] := by
      apply List.drop_eq_nil_of_le
      simp
      omega
    rw [hd] at k
    exact k M hV z_o2_rf
  | succ n ih =>
    intro i M l s h0 hn hV hW k
    have hlt : i < up := by omega
    have hlen := hW.2.1
    have hil : i.toNat < lo.length := by omega
    have ei : ((i.toNat : Nat) : Int) = i := by omega
    have hd : (lo.take up.toNat).drop i.toNat = lo.getD i.toNat 0 :: (lo.take up.toNat).drop (i + 1).toNat := by
      rw [List.drop_eq_getElem_cons (by simp; omega), show (i + 1).toNat = i.toNat + 1 by omega]
      congr 1
      rw [List.getElem_take, List.getD_eq_getElem?_getD, List.getElem?_eq_getElem hil]
      rfl
    rw [hd, b_app_cons] at k
    refine v_load rfl rfl ⟨rfl, Nat.le_of_ble_eq_true rfl⟩ ?_
    refine v_load rfl rfl ⟨rfl, Nat.le_of_ble_eq_true rfl⟩ ?_
    refine v_ige rfl (fun h => absurd h (by omega)) (fun _ => ?_)
    refine v_load rfl rfl ⟨rfl, Nat.le_of_ble_eq_true rfl⟩ ?_
    refine v_load rfl rfl ⟨rfl, Nat.le_of_ble_eq_true rfl⟩ ?_
    refine v_load rfl rfl ⟨rfl, Nat.le_of_ble_eq_true rfl⟩ ?_
    refine v_callr rfl ⟨Nat.le_of_ble_eq_true rfl, Nat.le_of_ble_eq_true rfl, z_rB hO, Nat.le_of_ble_eq_true rfl, rfl⟩ ?_
    refine S_at hO ?_
    refine v_callr rfl ⟨Nat.le_of_ble_eq_true rfl, Nat.le_of_ble_eq_true rfl, z_rB hB, Nat.le_of_ble_eq_true rfl, rfl⟩ ?_
    have eat : z_at M o i = lo.getD i.toNat 0 := by
      have := BV_at hW i.toNat hil
      rw [ei] at this
      exact this
    rw [eat]
    refine S_add hB hV (fun M1 hV1 ho1 => ?_)
    refine v_iinc rfl rfl rfl (by omega) rfl ?_
    refine v_goto rfl ?_
    refine ih (i + 1) M1 _ _ (by omega) (by omega) hV1 (BV_kept hW ho1 hB hO hao) (fun M2 hV2 ho2 => ?_)
    exact k M2 hV2 (z_o2_tr ho1 ho2)
theorem S_addFrom {o fr up : Int} {l lo : List Int} {s so : Int} (hB : z_isB a) (hO : z_isB o) (hao : o ≠ a) (hfr : 0 ≤ fr) (hup : 0 ≤ up ∧ up ≤ (lo.length : Int)) (hV : BV M a l s) (hW : BV M o lo so) (k : ∀ M', BV M' a (b_app (l, s) ((lo.take up.toNat).drop fr.toNat)).1 (b_app (l, s) ((lo.take up.toNat).drop fr.toNat)).2 → z_o2 a M M' → Q none M') :
    v_call L (d + 1) 7 [(2, a), (2, o), (0, fr), (0, up)] M Q := by
  refine v_in ?_
  refine v_load rfl rfl ⟨rfl, Nat.le_of_ble_eq_true rfl⟩ ?_
  refine v_store rfl ⟨rfl, Nat.le_of_ble_eq_true rfl, Nat.le_of_ble_eq_true rfl, rfl⟩ rfl ?_
  exact S_addFrom_loop hB hO hao hup _ fr M l s hfr rfl hV hW k
end BY
