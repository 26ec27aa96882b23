/-! HISTORY of the class: methods 13 to 18. Thirteen rows of bytes, in an order of their own -/
def z_isH (a : Int) : Prop := 10 ≤ a ∧ a ≤ 34 ∧ a % 2 = 0
theorem z_H_B {a : Int} (h : z_isH a) : z_isB a := Or.inr (Or.inr (Or.inr h))
/-- the texts, the one that is now, the last one -/
def HV (M : zM) (H : List (List Int)) (now last : Int) : Prop := M 8 1 = now ∧ M 8 2 = last ∧ 0 ≤ now ∧ now ≤ last ∧ last ≤ 12 ∧ H.length = 13 ∧ (∀ i : Nat, i < 13 → z_isH (M 9 (i : Int))) ∧ (∀ i j : Nat, i < 13 → j < 13 → M 9 (i : Int) = M 9 (j : Int) → i = j) ∧ (∀ i : Nat, i < 13 → BV M (M 9 (i : Int)) (H.getD i []) 0) ∧ ∀ x ∈ H, z_by x
theorem HV_oR {M M' : zM} {lo hi : Int} {H : List (List Int)} {now last : Int} (h : HV M H now last) (ho : z_oR lo hi M M') (hx : 35 < lo ∨ hi < 8) : HV M' H now last := by
  obtain ⟨h1, h2, h3, h4, h5, h6, h7, h8, h9, h10⟩ := h
  have e9 : ∀ i : Int, M' 9 i = M 9 i := fun i => ho 9 i (by omega)
  refine ⟨by rw [ho 8 1 (by omega)]; exact h1, by rw [ho 8 2 (by omega)]; exact h2, h3, h4, h5, h6, fun i hi => by rw [e9]; exact h7 i hi, fun i j hi hj => by rw [e9, e9]; exact h8 i j hi hj, fun i hi => ?_, h10⟩
  rw [e9]
  have := h7 i hi
  unfold z_isH at this
  exact BV_oR (h9 i hi) ho (by omega)
theorem HV_o2 {M M' : zM} {a : Int} {H : List (List Int)} {now last : Int} (h : HV M H now last) (ho : z_o2 a M M') (hx : a = 2 ∨ a = 4 ∨ a = 6) : HV M' H now last :=
  HV_oR h (lo := a) (hi := a + 1) (fun b j hb => ho b j (by omega) (by omega)) (by omega)
section HI
variable {L d : Nat} {M : zM} {Q : Option zV → zM → Prop} {H : List (List Int)} {now last : Int}
theorem S_behind (hH : HV M H now last) (k : Q (some (0, now)) M) : v_call L d 13 [(2, 8)] M Q := by
  refine v_in ?_
  repeat' (first
    | refine v_getx rfl rfl hH.1 ?_
    | refine v_load rfl rfl ⟨rfl, Nat.le_of_ble_eq_true rfl⟩ ?_
    | refine v_getp rfl rfl rfl ?_
    | refine v_geti rfl rfl ?_
    | refine v_push rfl ?_
    | refine v_goto rfl ?_
    | refine v_ret rfl rfl ?_
    | refine v_store rfl ⟨rfl, Nat.le_of_ble_eq_true rfl, Nat.le_of_ble_eq_true rfl, rfl⟩ rfl ?_
    | refine v_iinc rfl rfl rfl (by omega) rfl ?_
    | refine v_add rfl (by omega) ?_
    | refine v_sub rfl (by omega) ?_
    | refine v_ige rfl (fun _ => ?_) (fun _ => ?_)
    | refine v_ine rfl (fun _ => ?_) (fun _ => ?_)
    | refine v_ifeq rfl (fun _ => ?_) (fun _ => ?_)
    | refine v_ifne rfl (fun _ => ?_) (fun _ => ?_)
    | refine v_ieq rfl (fun _ => ?_) (fun _ => ?_)
    | refine v_iflt rfl (fun _ => ?_) (fun _ => ?_)
    | refine v_ile rfl (fun _ => ?_) (fun _ => ?_)
    | refine v_ilt rfl (fun _ => ?_) (fun _ => ?_)
    | refine v_igt rfl (fun _ => ?_) (fun _ => ?_)
    | refine v_ifle rfl (fun _ => ?_) (fun _ => ?_)
    | refine v_ifge rfl (fun _ => ?_) (fun _ => ?_)
    | refine v_ifgt rfl (fun _ => ?_) (fun _ => ?_)
    | refine v_ald9 rfl rfl (by refine ⟨?_, ?_⟩ <;> first | omega | (show _ < (300 : Int); omega) | (show _ < (1216 : Int); omega) | (show _ < (1600 : Int); omega) | (show _ < (301 : Int); omega) | (show _ < (18 : Int); omega) | (show _ < (100 : Int); omega) | (show _ < (20 : Int); omega) | (show _ < (13 : Int); omega) | (show _ < (3612 : Int); omega)) ?_
    | refine v_ast9 rfl rfl (by decide) (by refine ⟨?_, ?_⟩ <;> first | omega | (show _ < (300 : Int); omega) | (show _ < (1216 : Int); omega) | (show _ < (1600 : Int); omega) | (show _ < (301 : Int); omega) | (show _ < (18 : Int); omega) | (show _ < (100 : Int); omega) | (show _ < (20 : Int); omega) | (show _ < (13 : Int); omega) | (show _ < (3612 : Int); omega)) ?_
    | refine v_puti rfl rfl rfl ?_
    | refine v_len rfl ⟨Nat.le_of_ble_eq_true rfl, Nat.le_of_ble_eq_true rfl⟩ rfl ?_
    | refine v_getz rfl rfl ?_
    | refine v_getl rfl rfl ?_
    | refine v_dup rfl (Or.inl rfl) ?_
    | refine v_dup rfl (Or.inr rfl) ?_
    | refine v_pop rfl (Or.inl rfl) ?_
    | refine v_callr rfl ⟨Nat.le_of_ble_eq_true rfl, Nat.le_of_ble_eq_true rfl, rfl, Nat.le_of_ble_eq_true rfl, rfl⟩ ?_)
  exact k
theorem S_ahead (hH : HV M H now last) (k : Q (some (0, last - now)) M) : v_call L d 14 [(2, 8)] M Q := by
  have h1 := hH.1
  have h2 := hH.2.1
  obtain ⟨-, -, h3, h4, h5, -⟩ := hH
  refine v_in ?_
  refine v_load rfl rfl ⟨rfl, Nat.le_of_ble_eq_true rfl⟩ ?_
  refine v_getx rfl rfl h2 ?_
  refine v_load rfl rfl ⟨rfl, Nat.le_of_ble_eq_true rfl⟩ ?_
  refine v_getx rfl rfl h1 ?_
  refine v_sub rfl (by omega) ?_
  exact v_ret rfl rfl k
theorem S_hstep {by_ : Int} (hH : HV M H now last) (hb : by_ = 1 ∨ by_ = -1) (hr : 0 ≤ now + by_ ∧ now + by_ ≤ last) (k : ∀ M', HV M' H (now + by_) last → z_oR 8 8 M M' → Q none M') : v_call L d 16 [(2, 8), (0, by_)] M Q := by
  have h1 := hH.1
  have h2 := hH.2.1
  have h5 := hH.2.2.2.2.1
  refine v_in ?_
  refine v_load rfl rfl ⟨rfl, Nat.le_of_ble_eq_true rfl⟩ ?_
  refine v_getx rfl rfl h1 ?_
  refine v_load rfl rfl ⟨rfl, Nat.le_of_ble_eq_true rfl⟩ ?_
  refine v_add rfl (by omega) ?_
  refine v_store rfl ⟨rfl, Nat.le_of_ble_eq_true rfl, Nat.le_of_ble_eq_true rfl, rfl⟩ rfl ?_
  refine v_load rfl rfl ⟨rfl, Nat.le_of_ble_eq_true rfl⟩ ?_
  refine v_iflt rfl (fun h => absurd h (by omega)) (fun _ => ?_)
  refine v_load rfl rfl ⟨rfl, Nat.le_of_ble_eq_true rfl⟩ ?_
  refine v_load rfl rfl ⟨rfl, Nat.le_of_ble_eq_true rfl⟩ ?_
  refine v_getx rfl rfl h2 ?_
  refine v_igt rfl (fun h => absurd h (by omega)) (fun _ => ?_)
  refine v_load rfl rfl ⟨rfl, Nat.le_of_ble_eq_true rfl⟩ ?_
  refine v_load rfl rfl ⟨rfl, Nat.le_of_ble_eq_true rfl⟩ ?_
  refine v_puti rfl rfl rfl ?_
  refine v_ret rfl rfl ?_
  obtain ⟨-, -, -, -, -, h6, h7, h8, h9, h10⟩ := hH
  have e9 : ∀ i : Int, z_upd M 8 1 (now + by_) 9 i = M 9 i := fun i => u_n1 (by decide)
  have ho : z_oR 8 8 M (z_upd M 8 1 (now + by_)) := fun b j hb => u_n1 (by omega)
  refine k _ ⟨u_eq, by rw [u_n2 (by decide)]; exact h2, hr.1, hr.2, h5, h6, fun i hi => by rw [e9]; exact h7 i hi, fun i j hi hj => by rw [e9, e9]; exact h8 i j hi hj, fun i hi => ?_, h10⟩ ho
  rw [e9]
  have := h7 i hi
  unfold z_isH at this
  exact BV_oR (h9 i hi) ho (by omega)
theorem S_current (hH : HV M H now last) (k : Q (some (2, M 9 now)) M) : v_call L d 17 [(2, 8)] M Q := by
  have h1 := hH.1
  obtain ⟨-, -, h3, h4, h5, -⟩ := hH
  refine v_in ?_
  refine v_load rfl rfl ⟨rfl, Nat.le_of_ble_eq_true rfl⟩ ?_
  refine v_getp rfl rfl rfl ?_
  refine v_push rfl ?_
  refine v_load rfl rfl ⟨rfl, Nat.le_of_ble_eq_true rfl⟩ ?_
  refine v_getx rfl rfl h1 ?_
  refine v_push rfl ?_
  refine v_min rfl (by decide) ?_
  rw [if_neg (by omega)]
  refine v_max rfl (by decide) ?_
  have e : (if 0 < now then now else 0) = now := by
    split <;> omega
  rw [e]
  refine v_ald12 rfl rfl ⟨h3, by show now < (13 : Int); omega⟩ ?_
  exact v_ret rfl rfl k
/-- the first one goes behind the others -/
theorem S_forget_loop {M0 : zM} {x : Int} (hx : z_isH (M0 9 0)) (h7 : ∀ i : Nat, i < 13 → z_isH (M0 9 (i : Int))) (k : ∀ M', (∀ i : Nat, i < 12 → M' 9 (i : Int) = M0 9 ((i : Int) + 1)) → M' 9 12 = M0 9 0 → z_oR 9 9 M0 M' → Q none M') :
    ∀ (n j : Nat) (M : zM), n = 12 - j → j ≤ 12 → (∀ i : Nat, i < j → M 9 (i : Int) = M0 9 ((i : Int) + 1)) → (∀ i : Nat, j ≤ i → i < 13 → M 9 (i : Int) = M0 9 (i : Int)) → z_oR 9 9 M0 M → v_wp L d 18 9 [(2, 8), (2, M0 9 0), (0, (j : Int))] [] M Q := by
  intro n
  induction n with
  | zero =>
    intro j M hn hj ha hb ho
    have ej : j = 12 := by omega
    subst ej
    have hkx : (z_sC L (M0 9 0)).1 = 0 := by rw [(z_B (L := L) (z_H_B hx)).1]
    refine v_load rfl rfl ⟨rfl, Nat.le_of_ble_eq_true rfl⟩ ?_
    refine v_push rfl ?_
    refine v_add rfl (by omega) ?_
    refine v_load rfl rfl ⟨rfl, Nat.le_of_ble_eq_true rfl⟩ ?_
    refine v_getp rfl rfl rfl ?_
    refine v_len (x := 13) rfl ⟨Nat.le_of_ble_eq_true rfl, Nat.le_of_ble_eq_true rfl⟩ rfl ?_
    refine v_ige rfl (fun _ => ?_) (fun h => absurd h (by omega))
    refine v_load rfl rfl ⟨rfl, Nat.le_of_ble_eq_true rfl⟩ ?_
    refine v_getp rfl rfl rfl ?_
    refine v_load rfl rfl ⟨rfl, Nat.le_of_ble_eq_true rfl⟩ ?_
    refine v_getp rfl rfl rfl ?_
    refine v_len (x := 13) rfl ⟨Nat.le_of_ble_eq_true rfl, Nat.le_of_ble_eq_true rfl⟩ rfl ?_
    refine v_push rfl ?_
    refine v_sub rfl (by omega) ?_
    refine v_load rfl rfl ⟨rfl, Nat.le_of_ble_eq_true rfl⟩ ?_
    refine v_ast12 rfl rfl (by decide) ⟨by decide, by show (13 : Int) - 1 < 13; decide⟩ hkx ?_
    refine v_ret rfl rfl ?_
    refine k _ (fun i hi => ?_) (u_eq (i := 13 - 1)) (fun b j hb => ?_)
    · rw [u_n2 (by omega)]
      exact ha i hi
    · rw [u_n1 (by omega)]
      exact ho b j hb
  | succ n ih =>
    intro j M hn hj ha hb ho
    have hj1 := hb (j + 1) (by omega) (by omega)
    have hkx : (z_sC L (M 9 ((j : Int) + 1))).1 = 0 := by
      have e : M 9 ((j : Int) + 1) = M0 9 (((j + 1 : Nat)) : Int) := hj1
      rw [e, (z_B (L := L) (z_H_B (h7 (j + 1) (by omega)))).1]
    refine v_load rfl rfl ⟨rfl, Nat.le_of_ble_eq_true rfl⟩ ?_
    refine v_push rfl ?_
    refine v_add rfl (by omega) ?_
    refine v_load rfl rfl ⟨rfl, Nat.le_of_ble_eq_true rfl⟩ ?_
    refine v_getp rfl rfl rfl ?_
    refine v_len (x := 13) rfl ⟨Nat.le_of_ble_eq_true rfl, Nat.le_of_ble_eq_true rfl⟩ rfl ?_
    refine v_ige rfl (fun h => absurd h (by omega)) (fun _ => ?_)
    refine v_load rfl rfl ⟨rfl, Nat.le_of_ble_eq_true rfl⟩ ?_
    refine v_getp rfl rfl rfl ?_
    refine v_load rfl rfl ⟨rfl, Nat.le_of_ble_eq_true rfl⟩ ?_
    refine v_load rfl rfl ⟨rfl, Nat.le_of_ble_eq_true rfl⟩ ?_
    refine v_getp rfl rfl rfl ?_
    refine v_load rfl rfl ⟨rfl, Nat.le_of_ble_eq_true rfl⟩ ?_
    refine v_push rfl ?_
    refine v_add rfl (by omega) ?_
    refine v_ald12 rfl rfl ⟨by omega, by show (j : Int) + 1 < (13 : Int); omega⟩ ?_
    refine v_ast12 rfl rfl (by decide) ⟨by omega, by show (j : Int) < (13 : Int); omega⟩ hkx ?_
    refine v_iinc rfl rfl rfl (by omega) rfl ?_
    refine v_goto rfl ?_
    refine ih (j + 1) _ (by omega) (by omega) (fun i hi => ?_) (fun i hi hi2 => ?_) (fun b jj hb2 => ?_)
    · by_cases e : i = j
      · subst e
        rw [u_eq]
        exact hj1
      · rw [u_n2 (by omega)]
        exact ha i (by omega)
    · rw [u_n2 (by omega)]
      exact hb i (by omega) hi2
    · rw [u_n1 (by omega)]
      exact ho b jj hb2
theorem S_forget (hH : HV M H now last) (k : ∀ M', HV M' (H.drop 1 ++ [H.getD 0 []]) now last → z_oR 9 9 M M' → Q none M') : v_call L d 18 [(2, 8)] M Q := by
  obtain ⟨h1, h2, h3, h4, h5, h6, h7, h8, h9, h10⟩ := hH
  refine v_in ?_
  refine v_load rfl rfl ⟨rfl, Nat.le_of_ble_eq_true rfl⟩ ?_
  refine v_getp rfl rfl rfl ?_
  refine v_push rfl ?_
  refine v_ald12 rfl rfl ⟨by decide, by show (0 : Int) < 13; decide⟩ ?_
  refine v_store rfl ⟨rfl, Nat.le_of_ble_eq_true rfl, (show 1 + 2 % 2 < 3 by decide), rfl⟩ rfl ?_
  refine v_push rfl ?_
  refine v_store rfl ⟨rfl, Nat.le_of_ble_eq_true rfl, Nat.le_of_ble_eq_true rfl, rfl⟩ rfl ?_
  refine S_forget_loop (x := 0) (h7 0 (by decide)) h7 (fun M' ha hb ho => ?_) _ 0 M rfl (by decide) (fun i hi => absurd hi (by omega)) (fun i _ _ => rfl) z_oR_rf
  have e : ∀ i : Nat, i < 13 → ∃ j : Nat, j < 13 ∧ M' 9 (i : Int) = M 9 (j : Int) ∧ (H.drop 1 ++ [H.getD 0 []]).getD i [] = H.getD j [] ∧ (j = i + 1 ∨ (i = 12 ∧ j = 0)) := by
    intro i hi
    by_cases h12 : i = 12
    · subst h12
      refine ⟨0, by decide, hb, ?_, Or.inr ⟨rfl, rfl⟩⟩
      rw [List.getD_eq_getElem?_getD, List.getElem?_append_right (by simp; omega)]
      simp [h6]
    · refine ⟨i + 1, by omega, ha i (by omega), ?_, Or.inl rfl⟩
      rw [List.getD_eq_getElem?_getD, List.getElem?_append_left (by simp; omega), List.getElem?_drop, List.getD_eq_getElem?_getD, Nat.add_comm]
  refine k M' ⟨by rw [ho 8 1 (by omega)]; exact h1, by rw [ho 8 2 (by omega)]; exact h2, h3, h4, h5, by simp; omega, fun i hi => ?_, fun i j hi hj hij => ?_, fun i hi => ?_, fun x hx => ?_⟩ ho
  · obtain ⟨j, hj, e1, -⟩ := e i hi
    rw [e1]
    exact h7 j hj
  · obtain ⟨i2, hi2, e1, -, q1⟩ := e i hi
    obtain ⟨j2, hj2, e2, -, q2⟩ := e j hj
    rw [e1, e2] at hij
    have := h8 i2 j2 hi2 hj2 hij
    omega
  · obtain ⟨j, hj, e1, e2, -⟩ := e i hi
    rw [e1, e2]
    have := h7 j hj
    unfold z_isH at this
    exact BV_oR (h9 j hj) ho (by omega)
  · rcases List.mem_append.mp hx with h | h
    · exact h10 x (List.mem_of_mem_drop h)
    · rw [List.mem_singleton.mp h]
      rw [List.getD_eq_getElem?_getD, List.getElem?_eq_getElem (by omega)]
      exact h10 _ (List.getElem_mem _)
/-- an act's text is noted -/
def h_add (H : List (List Int)) (now : Int) (t : List Int) : List (List Int) × Int := if now < 12 then (H.set (now.toNat + 1) t, now + 1) else ((H.drop 1 ++ [H.getD 0 []]).set 12 t, 12)
theorem HV_set {M M' : zM} {t : List Int} (hH : HV M H now last) (hby : z_by t) (hV : BV M' (M 9 now) t 0) (ho : z_o2 (M 9 now) M M') : HV M' (H.set now.toNat t) now last := by
  obtain ⟨h1, h2, h3, h4, h5, h6, h7, h8, h9, h10⟩ := hH
  have en : ((now.toNat : Nat) : Int) = now := by omega
  have hn := h7 now.toNat (by omega)
  rw [en] at hn
  have hn' := hn
  unfold z_isH at hn'
  have e9 : ∀ i : Int, M' 9 i = M 9 i := fun i => ho 9 i (by omega) (by omega)
  refine ⟨by rw [ho 8 1 (by omega) (by omega)]; exact h1, by rw [ho 8 2 (by omega) (by omega)]; exact h2, h3, h4, h5, by simp; omega, fun i hi => by rw [e9]; exact h7 i hi, fun i j hi hj => by rw [e9, e9]; exact h8 i j hi hj, fun i hi => ?_, fun x hx => ?_⟩
  · rw [e9]
    by_cases e : i = now.toNat
    · subst e
      rw [en, List.getD_eq_getElem?_getD, List.getElem?_set_self (by omega)]
      exact hV
    · rw [List.getD_eq_getElem?_getD, List.getElem?_set_ne (fun z => e z.symm), ← List.getD_eq_getElem?_getD]
      refine BV_kept (h9 i hi) ho (z_H_B hn) (z_H_B (h7 i hi)) (fun z => e (h8 i now.toNat hi (by omega) (by rw [z, en])))
  · rcases List.mem_or_eq_of_mem_set hx with h | h
    · exact h10 x h
    · rw [h]; exact hby
end HI
