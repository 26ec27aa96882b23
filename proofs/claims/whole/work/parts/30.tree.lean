/-! THE TREE of the class: methods 84 to 108 -/
/-- a node: sort, the one whose child it is, children, size, depth, tokens ahead, tokens, sign -/
abbrev zQ : Type := Int × Int × Int × Int × Int × Int × Int × Int
def n0 : zQ := (-1, -1, 0, 0, 0, -1, 0, 0)
def RN (N : List zQ) (M : zM) : Prop := M 42 11 = (N.length : Int) ∧ N.length ≤ 1216 ∧ ∀ i : Nat, i < N.length → M 43 (i : Int) = (N.getD i n0).1 ∧ M 44 (i : Int) = (N.getD i n0).2.1 ∧ M 45 (i : Int) = (N.getD i n0).2.2.1 ∧ M 46 (i : Int) = (N.getD i n0).2.2.2.1 ∧ M 47 (i : Int) = (N.getD i n0).2.2.2.2.1 ∧ M 48 (i : Int) = (N.getD i n0).2.2.2.2.2.1 ∧ M 49 (i : Int) = (N.getD i n0).2.2.2.2.2.2.1 ∧ M 50 (i : Int) = (N.getD i n0).2.2.2.2.2.2.2
def nd (N : List zQ) (i : Int) : zQ := if 0 ≤ i ∧ i < (N.length : Int) then N.getD i.toNat n0 else n0
theorem nd_in {N : List zQ} {i : Int} (h : 0 ≤ i ∧ i < (N.length : Int)) : nd N i = N.getD i.toNat n0 := if_pos h
theorem nd_out {N : List zQ} {i : Int} (h : ¬ (0 ≤ i ∧ i < (N.length : Int))) : nd N i = n0 := if_neg h
theorem RN_at {N : List zQ} {M : zM} (h : RN N M) {i : Int} (hi : 0 ≤ i ∧ i < (N.length : Int)) : M 43 i = (nd N i).1 ∧ M 44 i = (nd N i).2.1 ∧ M 45 i = (nd N i).2.2.1 ∧ M 46 i = (nd N i).2.2.2.1 ∧ M 47 i = (nd N i).2.2.2.2.1 ∧ M 48 i = (nd N i).2.2.2.2.2.1 ∧ M 49 i = (nd N i).2.2.2.2.2.2.1 ∧ M 50 i = (nd N i).2.2.2.2.2.2.2 := by
  have := h.2.2 i.toNat (by omega)
  rw [show ((i.toNat : Nat) : Int) = i by omega] at this
  rw [nd_in hi]
  exact this
theorem RN_oR {N : List zQ} {M M' : zM} {lo hi : Int} (h : RN N M) (ho : z_oR lo hi M M') (hx : 51 < lo ∨ hi < 42) : RN N M' := by
  refine ⟨by rw [ho 42 11 (by omega)]; exact h.1, h.2.1, fun i hi2 => ?_⟩
  rw [ho 43 i (by omega), ho 44 i (by omega), ho 45 i (by omega), ho 46 i (by omega), ho 47 i (by omega), ho 48 i (by omega), ho 49 i (by omega), ho 50 i (by omega)]
  exact h.2.2 i hi2
section TR
variable {L d : Nat} {M : zM} {Q : Option zV → zM → Prop} {N : List zQ}
theorem S_ndSize (hR : RN N M) (k : Q (some (0, (N.length : Int))) M) : v_call L d 84 [(2, 42)] M Q := by
  refine v_in ?_
  refine v_load rfl rfl ⟨rfl, Nat.le_of_ble_eq_true rfl⟩ ?_
  refine v_getx rfl rfl hR.1 ?_
  exact v_ret rfl rfl k
theorem S_ndHas {i : Int} (hR : RN N M) (k : Q (some (0, if 0 ≤ i ∧ i < (N.length : Int) then 1 else 0)) M) : v_call L d 85 [(2, 42), (0, i)] M Q := by
  have h1 := hR.1
  have h2 := hR.2.1
  refine v_in ?_
  repeat' (first
    | refine v_getx rfl rfl hR.1 ?_
    | refine v_load rfl rfl ⟨rfl, Nat.le_of_ble_eq_true rfl⟩ ?_
    | refine v_getp rfl rfl rfl ?_
    | refine v_geti rfl rfl ?_
    | refine v_push rfl ?_
    | refine v_goto rfl ?_
    | refine v_ret rfl rfl ?_
    | refine v_store rfl ⟨rfl, Nat.le_of_ble_eq_true rfl, Nat.le_of_ble_eq_true rfl, rfl⟩ rfl ?_
    | refine v_iinc rfl rfl rfl (by omega) rfl ?_
    | refine v_add rfl (by omega) ?_
    | refine v_sub rfl (by omega) ?_
    | refine v_ige rfl (fun _ => ?_) (fun _ => ?_)
    | refine v_ine rfl (fun _ => ?_) (fun _ => ?_)
    | refine v_ifeq rfl (fun _ => ?_) (fun _ => ?_)
    | refine v_ifne rfl (fun _ => ?_) (fun _ => ?_)
    | refine v_ieq rfl (fun _ => ?_) (fun _ => ?_)
    | refine v_iflt rfl (fun _ => ?_) (fun _ => ?_)
    | refine v_ile rfl (fun _ => ?_) (fun _ => ?_)
    | refine v_ilt rfl (fun _ => ?_) (fun _ => ?_)
    | refine v_igt rfl (fun _ => ?_) (fun _ => ?_)
    | refine v_ifle rfl (fun _ => ?_) (fun _ => ?_)
    | refine v_ifge rfl (fun _ => ?_) (fun _ => ?_)
    | refine v_ifgt rfl (fun _ => ?_) (fun _ => ?_)
    | refine v_ald9 rfl rfl (by refine ⟨?_, ?_⟩ <;> first | omega | (show _ < (300 : Int); omega) | (show _ < (1216 : Int); omega) | (show _ < (1600 : Int); omega) | (show _ < (301 : Int); omega) | (show _ < (18 : Int); omega) | (show _ < (100 : Int); omega) | (show _ < (20 : Int); omega) | (show _ < (13 : Int); omega) | (show _ < (3612 : Int); omega)) ?_
    | refine v_ast9 rfl rfl (by decide) (by refine ⟨?_, ?_⟩ <;> first | omega | (show _ < (300 : Int); omega) | (show _ < (1216 : Int); omega) | (show _ < (1600 : Int); omega) | (show _ < (301 : Int); omega) | (show _ < (18 : Int); omega) | (show _ < (100 : Int); omega) | (show _ < (20 : Int); omega) | (show _ < (13 : Int); omega) | (show _ < (3612 : Int); omega)) ?_
    | refine v_puti rfl rfl rfl ?_
    | refine v_len rfl ⟨Nat.le_of_ble_eq_true rfl, Nat.le_of_ble_eq_true rfl⟩ rfl ?_
    | refine v_getz rfl rfl ?_
    | refine v_getl rfl rfl ?_
    | refine v_dup rfl (Or.inl rfl) ?_
    | refine v_dup rfl (Or.inr rfl) ?_
    | refine v_pop rfl (Or.inl rfl) ?_
    | refine v_callr rfl ⟨Nat.le_of_ble_eq_true rfl, Nat.le_of_ble_eq_true rfl, rfl, Nat.le_of_ble_eq_true rfl, rfl⟩ ?_)
  all_goals first
    | (rw [if_pos (by omega)] at k; exact k)
    | (rw [if_neg (by omega)] at k; exact k)
theorem S_ndSort {i : Int} (hR : RN N M) (k : Q (some (0, (nd N i).1)) M) : v_call L (d + 1) 86 [(2, 42), (0, i)] M Q := by
  have h1 := hR.1
  have h2 := hR.2.1
  refine v_in ?_
  refine v_load rfl rfl ⟨rfl, Nat.le_of_ble_eq_true rfl⟩ ?_
  refine v_load rfl rfl ⟨rfl, Nat.le_of_ble_eq_true rfl⟩ ?_
  refine v_callr rfl ⟨Nat.le_of_ble_eq_true rfl, Nat.le_of_ble_eq_true rfl, rfl, Nat.le_of_ble_eq_true rfl, rfl⟩ ?_
  refine S_ndHas hR ?_
  refine v_ifeq rfl (fun h => ?_) (fun h => ?_)
  · rw [z_if01] at h
    rw [nd_out h] at k
    refine v_push rfl ?_
    exact v_ret rfl rfl k
  · rw [z_if01] at h
    have h := Decidable.not_not.mp h
    rw [← (RN_at hR h).1] at k
    refine v_load rfl rfl ⟨rfl, Nat.le_of_ble_eq_true rfl⟩ ?_
    refine v_getp rfl rfl rfl ?_
    refine v_load rfl rfl ⟨rfl, Nat.le_of_ble_eq_true rfl⟩ ?_
    refine v_ald9 rfl rfl ⟨h.1, by show i < (1216 : Int); omega⟩ ?_
    refine v_goto rfl ?_
    exact v_ret rfl rfl k
theorem S_ndUp {i : Int} (hR : RN N M) (k : Q (some (0, (nd N i).2.1)) M) : v_call L (d + 1) 90 [(2, 42), (0, i)] M Q := by
  have h1 := hR.1
  have h2 := hR.2.1
  refine v_in ?_
  refine v_load rfl rfl ⟨rfl, Nat.le_of_ble_eq_true rfl⟩ ?_
  refine v_load rfl rfl ⟨rfl, Nat.le_of_ble_eq_true rfl⟩ ?_
  refine v_callr rfl ⟨Nat.le_of_ble_eq_true rfl, Nat.le_of_ble_eq_true rfl, rfl, Nat.le_of_ble_eq_true rfl, rfl⟩ ?_
  refine S_ndHas hR ?_
  refine v_ifeq rfl (fun h => ?_) (fun h => ?_)
  · rw [z_if01] at h
    rw [nd_out h] at k
    refine v_push rfl ?_
    exact v_ret rfl rfl k
  · rw [z_if01] at h
    have h := Decidable.not_not.mp h
    rw [← (RN_at hR h).2.1] at k
    refine v_load rfl rfl ⟨rfl, Nat.le_of_ble_eq_true rfl⟩ ?_
    refine v_getp rfl rfl rfl ?_
    refine v_load rfl rfl ⟨rfl, Nat.le_of_ble_eq_true rfl⟩ ?_
    refine v_ald9 rfl rfl ⟨h.1, by show i < (1216 : Int); omega⟩ ?_
    refine v_goto rfl ?_
    exact v_ret rfl rfl k
theorem S_ndKids {i : Int} (hR : RN N M) (k : Q (some (0, (nd N i).2.2.1)) M) : v_call L (d + 1) 91 [(2, 42), (0, i)] M Q := by
  have h1 := hR.1
  have h2 := hR.2.1
  refine v_in ?_
  refine v_load rfl rfl ⟨rfl, Nat.le_of_ble_eq_true rfl⟩ ?_
  refine v_load rfl rfl ⟨rfl, Nat.le_of_ble_eq_true rfl⟩ ?_
  refine v_callr rfl ⟨Nat.le_of_ble_eq_true rfl, Nat.le_of_ble_eq_true rfl, rfl, Nat.le_of_ble_eq_true rfl, rfl⟩ ?_
  refine S_ndHas hR ?_
  refine v_ifeq rfl (fun h => ?_) (fun h => ?_)
  · rw [z_if01] at h
    rw [nd_out h] at k
    refine v_push rfl ?_
    exact v_ret rfl rfl k
  · rw [z_if01] at h
    have h := Decidable.not_not.mp h
    rw [← (RN_at hR h).2.2.1] at k
    refine v_load rfl rfl ⟨rfl, Nat.le_of_ble_eq_true rfl⟩ ?_
    refine v_getp rfl rfl rfl ?_
    refine v_load rfl rfl ⟨rfl, Nat.le_of_ble_eq_true rfl⟩ ?_
    refine v_ald9 rfl rfl ⟨h.1, by show i < (1216 : Int); omega⟩ ?_
    refine v_goto rfl ?_
    exact v_ret rfl rfl k
theorem S_ndSiz {i : Int} (hR : RN N M) (k : Q (some (0, (nd N i).2.2.2.1)) M) : v_call L (d + 1) 92 [(2, 42), (0, i)] M Q := by
  have h1 := hR.1
  have h2 := hR.2.1
  refine v_in ?_
  refine v_load rfl rfl ⟨rfl, Nat.le_of_ble_eq_true rfl⟩ ?_
  refine v_load rfl rfl ⟨rfl, Nat.le_of_ble_eq_true rfl⟩ ?_
  refine v_callr rfl ⟨Nat.le_of_ble_eq_true rfl, Nat.le_of_ble_eq_true rfl, rfl, Nat.le_of_ble_eq_true rfl, rfl⟩ ?_
  refine S_ndHas hR ?_
  refine v_ifeq rfl (fun h => ?_) (fun h => ?_)
  · rw [z_if01] at h
    rw [nd_out h] at k
    refine v_push rfl ?_
    exact v_ret rfl rfl k
  · rw [z_if01] at h
    have h := Decidable.not_not.mp h
    rw [← (RN_at hR h).2.2.2.1] at k
    refine v_load rfl rfl ⟨rfl, Nat.le_of_ble_eq_true rfl⟩ ?_
    refine v_getp rfl rfl rfl ?_
    refine v_load rfl rfl ⟨rfl, Nat.le_of_ble_eq_true rfl⟩ ?_
    refine v_ald9 rfl rfl ⟨h.1, by show i < (1216 : Int); omega⟩ ?_
    refine v_goto rfl ?_
    exact v_ret rfl rfl k
theorem S_ndDepth {i : Int} (hR : RN N M) (k : Q (some (0, (nd N i).2.2.2.2.1)) M) : v_call L (d + 1) 93 [(2, 42), (0, i)] M Q := by
  have h1 := hR.1
  have h2 := hR.2.1
  refine v_in ?_
  refine v_load rfl rfl ⟨rfl, Nat.le_of_ble_eq_true rfl⟩ ?_
  refine v_load rfl rfl ⟨rfl, Nat.le_of_ble_eq_true rfl⟩ ?_
  refine v_callr rfl ⟨Nat.le_of_ble_eq_true rfl, Nat.le_of_ble_eq_true rfl, rfl, Nat.le_of_ble_eq_true rfl, rfl⟩ ?_
  refine S_ndHas hR ?_
  refine v_ifeq rfl (fun h => ?_) (fun h => ?_)
  · rw [z_if01] at h
    rw [nd_out h] at k
    refine v_push rfl ?_
    exact v_ret rfl rfl k
  · rw [z_if01] at h
    have h := Decidable.not_not.mp h
    rw [← (RN_at hR h).2.2.2.2.1] at k
    refine v_load rfl rfl ⟨rfl, Nat.le_of_ble_eq_true rfl⟩ ?_
    refine v_getp rfl rfl rfl ?_
    refine v_load rfl rfl ⟨rfl, Nat.le_of_ble_eq_true rfl⟩ ?_
    refine v_ald9 rfl rfl ⟨h.1, by show i < (1216 : Int); omega⟩ ?_
    refine v_goto rfl ?_
    exact v_ret rfl rfl k
theorem S_ndFrom {i : Int} (hR : RN N M) (k : Q (some (0, (nd N i).2.2.2.2.2.1)) M) : v_call L (d + 1) 94 [(2, 42), (0, i)] M Q := by
  have h1 := hR.1
  have h2 := hR.2.1
  refine v_in ?_
  refine v_load rfl rfl ⟨rfl, Nat.le_of_ble_eq_true rfl⟩ ?_
  refine v_load rfl rfl ⟨rfl, Nat.le_of_ble_eq_true rfl⟩ ?_
  refine v_callr rfl ⟨Nat.le_of_ble_eq_true rfl, Nat.le_of_ble_eq_true rfl, rfl, Nat.le_of_ble_eq_true rfl, rfl⟩ ?_
  refine S_ndHas hR ?_
  refine v_ifeq rfl (fun h => ?_) (fun h => ?_)
  · rw [z_if01] at h
    rw [nd_out h] at k
    refine v_push rfl ?_
    exact v_ret rfl rfl k
  · rw [z_if01] at h
    have h := Decidable.not_not.mp h
    rw [← (RN_at hR h).2.2.2.2.2.1] at k
    refine v_load rfl rfl ⟨rfl, Nat.le_of_ble_eq_true rfl⟩ ?_
    refine v_getp rfl rfl rfl ?_
    refine v_load rfl rfl ⟨rfl, Nat.le_of_ble_eq_true rfl⟩ ?_
    refine v_ald9 rfl rfl ⟨h.1, by show i < (1216 : Int); omega⟩ ?_
    refine v_goto rfl ?_
    exact v_ret rfl rfl k
theorem S_ndTaken {i : Int} (hR : RN N M) (k : Q (some (0, (nd N i).2.2.2.2.2.2.1)) M) : v_call L (d + 1) 95 [(2, 42), (0, i)] M Q := by
  have h1 := hR.1
  have h2 := hR.2.1
  refine v_in ?_
  refine v_load rfl rfl ⟨rfl, Nat.le_of_ble_eq_true rfl⟩ ?_
  refine v_load rfl rfl ⟨rfl, Nat.le_of_ble_eq_true rfl⟩ ?_
  refine v_callr rfl ⟨Nat.le_of_ble_eq_true rfl, Nat.le_of_ble_eq_true rfl, rfl, Nat.le_of_ble_eq_true rfl, rfl⟩ ?_
  refine S_ndHas hR ?_
  refine v_ifeq rfl (fun h => ?_) (fun h => ?_)
  · rw [z_if01] at h
    rw [nd_out h] at k
    refine v_push rfl ?_
    exact v_ret rfl rfl k
  · rw [z_if01] at h
    have h := Decidable.not_not.mp h
    rw [← (RN_at hR h).2.2.2.2.2.2.1] at k
    refine v_load rfl rfl ⟨rfl, Nat.le_of_ble_eq_true rfl⟩ ?_
    refine v_getp rfl rfl rfl ?_
    refine v_load rfl rfl ⟨rfl, Nat.le_of_ble_eq_true rfl⟩ ?_
    refine v_ald9 rfl rfl ⟨h.1, by show i < (1216 : Int); omega⟩ ?_
    refine v_goto rfl ?_
    exact v_ret rfl rfl k
theorem S_ndSign {i : Int} (hR : RN N M) (k : Q (some (0, (nd N i).2.2.2.2.2.2.2)) M) : v_call L (d + 1) 96 [(2, 42), (0, i)] M Q := by
  have h1 := hR.1
  have h2 := hR.2.1
  refine v_in ?_
  refine v_load rfl rfl ⟨rfl, Nat.le_of_ble_eq_true rfl⟩ ?_
  refine v_load rfl rfl ⟨rfl, Nat.le_of_ble_eq_true rfl⟩ ?_
  refine v_callr rfl ⟨Nat.le_of_ble_eq_true rfl, Nat.le_of_ble_eq_true rfl, rfl, Nat.le_of_ble_eq_true rfl, rfl⟩ ?_
  refine S_ndHas hR ?_
  refine v_ifeq rfl (fun h => ?_) (fun h => ?_)
  · rw [z_if01] at h
    rw [nd_out h] at k
    refine v_push rfl ?_
    exact v_ret rfl rfl k
  · rw [z_if01] at h
    have h := Decidable.not_not.mp h
    rw [← (RN_at hR h).2.2.2.2.2.2.2] at k
    refine v_load rfl rfl ⟨rfl, Nat.le_of_ble_eq_true rfl⟩ ?_
    refine v_getp rfl rfl rfl ?_
    refine v_load rfl rfl ⟨rfl, Nat.le_of_ble_eq_true rfl⟩ ?_
    refine v_ald9 rfl rfl ⟨h.1, by show i < (1216 : Int); omega⟩ ?_
    refine v_goto rfl ?_
    exact v_ret rfl rfl k
theorem S_ndIsOf {i so : Int} (hR : RN N M) (hs : 0 ≤ so) (k : Q (some (0, b2i (decide ((nd N i).1 = so)))) M) : v_call L (d + 1) 87 [(2, 42), (0, i), (0, so)] M Q := by
  have h1 := hR.1
  have h2 := hR.2.1
  refine v_in ?_
  refine v_load rfl rfl ⟨rfl, Nat.le_of_ble_eq_true rfl⟩ ?_
  refine v_load rfl rfl ⟨rfl, Nat.le_of_ble_eq_true rfl⟩ ?_
  refine v_callr rfl ⟨Nat.le_of_ble_eq_true rfl, Nat.le_of_ble_eq_true rfl, rfl, Nat.le_of_ble_eq_true rfl, rfl⟩ ?_
  refine S_ndHas hR ?_
  refine v_ifeq rfl (fun h => ?_) (fun h => ?_)
  · rw [z_if01] at h
    rw [nd_out h, show decide (n0.1 = so) = false from decide_eq_false (by show ¬ (-1 : Int) = so; omega)] at k
    refine v_push rfl ?_
    exact v_ret rfl rfl k
  · rw [z_if01] at h
    have h := Decidable.not_not.mp h
    rw [← (RN_at hR h).1] at k
    refine v_load rfl rfl ⟨rfl, Nat.le_of_ble_eq_true rfl⟩ ?_
    refine v_getp rfl rfl rfl ?_
    refine v_load rfl rfl ⟨rfl, Nat.le_of_ble_eq_true rfl⟩ ?_
    refine v_ald9 rfl rfl ⟨h.1, by show i < (1216 : Int); omega⟩ ?_
    refine v_load rfl rfl ⟨rfl, Nat.le_of_ble_eq_true rfl⟩ ?_
    refine v_ine rfl (fun e => ?_) (fun e => ?_)
    · rw [decide_eq_false e] at k
      refine v_push rfl ?_
      exact v_ret rfl rfl k
    · rw [decide_eq_true e] at k
      refine v_push rfl ?_
      refine v_goto rfl ?_
      exact v_ret rfl rfl k
end TR
