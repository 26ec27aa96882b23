/-! BYTES: a row of at most 300 bytes. Methods 1 to 11 -/
def z_isB (a : Int) : Prop := a = 2 ∨ a = 4 ∨ a = 6 ∨ (10 ≤ a ∧ a ≤ 34 ∧ a % 2 = 0)
theorem z_B {L : Nat} {a : Int} (h : z_isB a) : z_sC L a = (0, 3) ∧ z_sC L (a + 1) = (9, 300) ∧ z_ptr a 0 = some (a + 1) ∧ z_ptr a 1 = none ∧ z_ptr a 2 = none ∧ 0 < a := by
  unfold z_isB at h
  have hc : a = 2 ∨ a = 4 ∨ a = 6 ∨ a = 10 ∨ a = 12 ∨ a = 14 ∨ a = 16 ∨ a = 18 ∨ a = 20 ∨ a = 22 ∨ a = 24 ∨ a = 26 ∨ a = 28 ∨ a = 30 ∨ a = 32 ∨ a = 34 := by omega
  rcases hc with rfl | rfl | rfl | rfl | rfl | rfl | rfl | rfl | rfl | rfl | rfl | rfl | rfl | rfl | rfl | rfl <;> exact ⟨rfl, rfl, rfl, rfl, rfl, by decide⟩
def z_at (M : zM) (a i : Int) : Int := if 0 ≤ i ∧ i < M a 1 ∧ i < 300 then M (a + 1) i else -1
section BY
variable {L d : Nat} {M : zM} {Q : Option zV → zM → Prop} {a : Int}
theorem S_size (hB : z_isB a) (k : Q (some (0, M a 1)) M) : v_call L d 1 [(2, a)] M Q := by
  obtain ⟨h0, h1, p0, p1, p2, hp⟩ := z_B (L := L) hB
  have hk : ((z_sC L a).1 : Int) = 0 := by rw [h0]; rfl
  refine v_in ?_
  repeat' (first
    | refine v_geti rfl hk ?_
    | refine v_load rfl rfl ⟨rfl, Nat.le_of_ble_eq_true rfl⟩ ?_
    | refine v_getp rfl rfl rfl ?_
    | refine v_geti rfl rfl ?_
    | refine v_push rfl ?_
    | refine v_goto rfl ?_
    | refine v_ret rfl rfl ?_
    | refine v_store rfl ⟨rfl, Nat.le_of_ble_eq_true rfl, Nat.le_of_ble_eq_true rfl, rfl⟩ rfl ?_
    | refine v_iinc rfl rfl rfl (by omega) rfl ?_
    | refine v_add rfl (by omega) ?_
    | refine v_sub rfl (by omega) ?_
    | refine v_ige rfl (fun _ => ?_) (fun _ => ?_)
    | refine v_ine rfl (fun _ => ?_) (fun _ => ?_)
    | refine v_ifeq rfl (fun _ => ?_) (fun _ => ?_)
    | refine v_ifne rfl (fun _ => ?_) (fun _ => ?_)
    | refine v_ieq rfl (fun _ => ?_) (fun _ => ?_)
    | refine v_iflt rfl (fun _ => ?_) (fun _ => ?_)
    | refine v_ile rfl (fun _ => ?_) (fun _ => ?_)
    | refine v_ilt rfl (fun _ => ?_) (fun _ => ?_)
    | refine v_igt rfl (fun _ => ?_) (fun _ => ?_)
    | refine v_ifle rfl (fun _ => ?_) (fun _ => ?_)
    | refine v_ifge rfl (fun _ => ?_) (fun _ => ?_)
    | refine v_ifgt rfl (fun _ => ?_) (fun _ => ?_)
    | refine v_ald9 rfl rfl (by refine ⟨?_, ?_⟩ <;> first | omega | (show _ < (300 : Int); omega) | (show _ < (1216 : Int); omega) | (show _ < (1600 : Int); omega) | (show _ < (301 : Int); omega) | (show _ < (18 : Int); omega) | (show _ < (100 : Int); omega) | (show _ < (20 : Int); omega) | (show _ < (13 : Int); omega) | (show _ < (3612 : Int); omega)) ?_
    | refine v_ast9 rfl rfl (by decide) (by refine ⟨?_, ?_⟩ <;> first | omega | (show _ < (300 : Int); omega) | (show _ < (1216 : Int); omega) | (show _ < (1600 : Int); omega) | (show _ < (301 : Int); omega) | (show _ < (18 : Int); omega) | (show _ < (100 : Int); omega) | (show _ < (20 : Int); omega) | (show _ < (13 : Int); omega) | (show _ < (3612 : Int); omega)) ?_
    | refine v_puti rfl rfl rfl ?_
    | refine v_len rfl ⟨Nat.le_of_ble_eq_true rfl, Nat.le_of_ble_eq_true rfl⟩ rfl ?_
    | refine v_getz rfl rfl ?_
    | refine v_getl rfl rfl ?_
    | refine v_dup rfl (Or.inl rfl) ?_
    | refine v_dup rfl (Or.inr rfl) ?_
    | refine v_pop rfl (Or.inl rfl) ?_
    | refine v_callr rfl ⟨Nat.le_of_ble_eq_true rfl, Nat.le_of_ble_eq_true rfl, rfl, Nat.le_of_ble_eq_true rfl, rfl⟩ ?_)
  exact k
theorem S_isSpilled (hB : z_isB a) (hs : M a 2 = 0 ∨ M a 2 = 1) (k : Q (some (0, M a 2)) M) : v_call L d 3 [(2, a)] M Q := by
  obtain ⟨h0, h1, p0, p1, p2, hp⟩ := z_B (L := L) hB
  have hk : ((z_sC L a).1 : Int) = 0 := by rw [h0]; rfl
  refine v_in ?_
  refine v_load rfl rfl ⟨rfl, Nat.le_of_ble_eq_true rfl⟩ ?_
  refine v_getz rfl hk ?_
  refine v_ret rfl (show z_ret 3 [(0, M a 2)] = some (some (0, M a 2)) by simp [z_ret, z_st, z_fitv, hs]) k
theorem S_at {i : Int} (hB : z_isB a) (k : Q (some (0, z_at M a i)) M) : v_call L d 2 [(2, a), (0, i)] M Q := by
  obtain ⟨h0, h1, p0, p1, p2, hp⟩ := z_B (L := L) hB
  have hk : ((z_sC L a).1 : Int) = 0 := by rw [h0]; rfl
  have hk1 : (z_sC L (a + 1)).1 = 9 := by rw [h1]
  have hl1 : ((z_sC L (a + 1)).2 : Int) = 300 := by rw [h1]; rfl
  refine v_in ?_
  unfold z_at at k
  repeat' (first
    | refine v_geti rfl hk ?_
    | refine v_getp rfl hk p0 ?_
    | refine v_len rfl ⟨by omega, by omega⟩ hl1 ?_
    | refine v_ald9 rfl hk1 ⟨by omega, by omega⟩ ?_
    | refine v_load rfl rfl ⟨rfl, Nat.le_of_ble_eq_true rfl⟩ ?_
    | refine v_getp rfl rfl rfl ?_
    | refine v_geti rfl rfl ?_
    | refine v_push rfl ?_
    | refine v_goto rfl ?_
    | refine v_ret rfl rfl ?_
    | refine v_store rfl ⟨rfl, Nat.le_of_ble_eq_true rfl, Nat.le_of_ble_eq_true rfl, rfl⟩ rfl ?_
    | refine v_iinc rfl rfl rfl (by omega) rfl ?_
    | refine v_add rfl (by omega) ?_
    | refine v_sub rfl (by omega) ?_
    | refine v_ige rfl (fun _ => ?_) (fun _ => ?_)
    | refine v_ine rfl (fun _ => ?_) (fun _ => ?_)
    | refine v_ifeq rfl (fun _ => ?_) (fun _ => ?_)
    | refine v_ifne rfl (fun _ => ?_) (fun _ => ?_)
    | refine v_ieq rfl (fun _ => ?_) (fun _ => ?_)
    | refine v_iflt rfl (fun _ => ?_) (fun _ => ?_)
    | refine v_ile rfl (fun _ => ?_) (fun _ => ?_)
    | refine v_ilt rfl (fun _ => ?_) (fun _ => ?_)
    | refine v_igt rfl (fun _ => ?_) (fun _ => ?_)
    | refine v_ifle rfl (fun _ => ?_) (fun _ => ?_)
    | refine v_ifge rfl (fun _ => ?_) (fun _ => ?_)
    | refine v_ifgt rfl (fun _ => ?_) (fun _ => ?_)
    | refine v_ald9 rfl rfl (by refine ⟨?_, ?_⟩ <;> first | omega | (show _ < (300 : Int); omega) | (show _ < (1216 : Int); omega) | (show _ < (1600 : Int); omega) | (show _ < (301 : Int); omega) | (show _ < (18 : Int); omega) | (show _ < (100 : Int); omega) | (show _ < (20 : Int); omega) | (show _ < (13 : Int); omega) | (show _ < (3612 : Int); omega)) ?_
    | refine v_ast9 rfl rfl (by decide) (by refine ⟨?_, ?_⟩ <;> first | omega | (show _ < (300 : Int); omega) | (show _ < (1216 : Int); omega) | (show _ < (1600 : Int); omega) | (show _ < (301 : Int); omega) | (show _ < (18 : Int); omega) | (show _ < (100 : Int); omega) | (show _ < (20 : Int); omega) | (show _ < (13 : Int); omega) | (show _ < (3612 : Int); omega)) ?_
    | refine v_puti rfl rfl rfl ?_
    | refine v_len rfl ⟨Nat.le_of_ble_eq_true rfl, Nat.le_of_ble_eq_true rfl⟩ rfl ?_
    | refine v_getz rfl rfl ?_
    | refine v_getl rfl rfl ?_
    | refine v_dup rfl (Or.inl rfl) ?_
    | refine v_dup rfl (Or.inr rfl) ?_
    | refine v_pop rfl (Or.inl rfl) ?_
    | refine v_callr rfl ⟨Nat.le_of_ble_eq_true rfl, Nat.le_of_ble_eq_true rfl, rfl, Nat.le_of_ble_eq_true rfl, rfl⟩ ?_)
  all_goals first
    | (rw [if_pos (by omega)] at k; exact k)
    | (rw [if_neg (by omega)] at k; exact k)
end BY
