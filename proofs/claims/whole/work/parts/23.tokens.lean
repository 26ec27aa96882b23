/-! TOKENS of the class: methods 63 to 82 -/
section VX
variable {L d m pc n : Nat} {ll st : List zV} {M : zM} {Q : Option zV → zM → Prop} {g g1 g2 g3 : Int} {q : List (Int × Int)}
/-- a field's number by what is known of it -/
theorem v_getx {ci k a x : Int} (hc : z_cd m pc = (15, n, ci, k, 0, q)) (ha : ((z_sC L a).1 : Int) = ci) (hx : M a k = x) (kk : v_wp L d m n ll ((0, x) :: st) M Q) : v_wp L d m pc ll ((2, a) :: st) M Q := v_geti hc ha (by rw [hx]; exact kk)
theorem v_ldS {j r : Int} (hc : z_cd m pc = (29, n, j, g, g1, q)) (hj : 0 ≤ j ∧ j < 3) (hr : -2 - j = r) (k : v_wp L d m n ll ((2, r) :: st) M Q) : v_wp L d m pc ll st M Q := by
  subst hr
  exact v_st hc (by simp only [z_stp, if_pos hj]) k (Or.inl (Nat.le_of_ble_eq_true rfl))
theorem v_slen {w : Int} (hc : z_cd m pc = (30, n, g, g1, g2, q)) (hw : -4 ≤ w ∧ w ≤ -2 ∧ st.length ≤ 4) (hd : 5 ≤ d) (k : v_wp L d m n ll ((0, ((z_str w).length : Int)) :: st) M Q) : v_wp L d m pc ll ((2, w) :: st) M Q := v_st hc (by simp only [z_stp, if_pos hw]) k (Or.inr hd)
theorem v_schr {w i : Int} (hc : z_cd m pc = (31, n, g, g1, g2, q)) (hw : -4 ≤ w ∧ w ≤ -2 ∧ 0 ≤ i ∧ i < ((z_str w).length : Int) ∧ st.length ≤ 4) (hd : 5 ≤ d) (k : v_wp L d m n ll ((0, (z_str w).getD i.toNat 0) :: st) M Q) : v_wp L d m pc ll ((0, i) :: (2, w) :: st) M Q := v_st hc (by simp only [z_stp, if_pos hw]) k (Or.inr hd)
end VX
/-- outside a block of cells nothing has changed -/
def z_oR (lo hi : Int) (M M' : zM) : Prop := ∀ b j, ¬ (lo ≤ b ∧ b ≤ hi) → M' b j = M b j
theorem z_oR_rf {lo hi : Int} {M : zM} : z_oR lo hi M M := fun _ _ _ => rfl
theorem z_oR_tr {lo hi : Int} {M M1 M2 : zM} (h : z_oR lo hi M M1) (h2 : z_oR lo hi M1 M2) : z_oR lo hi M M2 := fun b j h3 => (h2 b j h3).trans (h b j h3)
theorem z_oR_w {lo hi lo' hi' : Int} {M M1 : zM} (h : z_oR lo hi M M1) (h1 : lo' ≤ lo) (h2 : hi ≤ hi') : z_oR lo' hi' M M1 := fun b j h3 => h b j (fun z => h3 ⟨by omega, by omega⟩)
theorem BV_oR {M M' : zM} {lo hi a : Int} {l : List Int} {s : Int} (h : BV M a l s) (ho : z_oR lo hi M M') (ha : a + 1 < lo ∨ hi < a) : BV M' a l s :=
  ⟨by rw [ho a 1 (by omega)]; exact h.1, h.2.1, fun i hi => by rw [ho (a + 1) i (by omega)]; exact h.2.2.1 i hi, by rw [ho a 2 (by omega)]; exact h.2.2.2.1, h.2.2.2.2⟩
abbrev zT : Type := Int × Int × Int × Int × Int
def t0 : zT := (-1, 0, 0, -1, 0)
/-- the class's tokens: sort, first byte, end, read, sign -/
def RT (T : List zT) (M : zM) : Prop := M 36 6 = (T.length : Int) ∧ T.length ≤ 300 ∧ ∀ i : Nat, i < T.length → M 37 (i : Int) = (T.getD i t0).1 ∧ M 38 (i : Int) = (T.getD i t0).2.1 ∧ M 39 (i : Int) = (T.getD i t0).2.2.1 ∧ M 40 (i : Int) = (T.getD i t0).2.2.2.1 ∧ M 41 (i : Int) = (T.getD i t0).2.2.2.2
/-- a token by its number; t0 where there is none -/
def tk (T : List zT) (i : Int) : zT := if 0 ≤ i ∧ i < (T.length : Int) then T.getD i.toNat t0 else t0
theorem tk_in {T : List zT} {i : Int} (h : 0 ≤ i ∧ i < (T.length : Int)) : tk T i = T.getD i.toNat t0 := if_pos h
theorem tk_out {T : List zT} {i : Int} (h : ¬ (0 ≤ i ∧ i < (T.length : Int))) : tk T i = t0 := if_neg h
theorem RT_at {T : List zT} {M : zM} (h : RT T M) {i : Int} (hi : 0 ≤ i ∧ i < (T.length : Int)) : M 37 i = (tk T i).1 ∧ M 38 i = (tk T i).2.1 ∧ M 39 i = (tk T i).2.2.1 ∧ M 40 i = (tk T i).2.2.2.1 ∧ M 41 i = (tk T i).2.2.2.2 := by
  have := h.2.2 i.toNat (by omega)
  rw [show ((i.toNat : Nat) : Int) = i by omega] at this
  rw [tk_in hi]
  exact this
theorem RT_oR {T : List zT} {M M' : zM} {lo hi : Int} (h : RT T M) (ho : z_oR lo hi M M') (hx : 41 < lo ∨ hi < 36) : RT T M' := by
  refine ⟨by rw [ho 36 6 (by omega)]; exact h.1, h.2.1, fun i hi2 => ?_⟩
  rw [ho 37 i (by omega), ho 38 i (by omega), ho 39 i (by omega), ho 40 i (by omega), ho 41 i (by omega)]
  exact h.2.2 i hi2
section TO
variable {L d : Nat} {M : zM} {Q : Option zV → zM → Prop} {T : List zT} {t : List Int} {s : Int}
theorem S_tkSize (hR : RT T M) (k : Q (some (0, (T.length : Int))) M) : v_call L d 63 [(2, 36)] M Q := by
  refine v_in ?_
  repeat' (first
    | refine v_getx rfl rfl hR.1 ?_
    | refine v_load rfl rfl ⟨rfl, Nat.le_of_ble_eq_true rfl⟩ ?_
    | refine v_getp rfl rfl rfl ?_
    | refine v_geti rfl rfl ?_
    | refine v_push rfl ?_
    | refine v_goto rfl ?_
    | refine v_ret rfl rfl ?_
    | refine v_store rfl ⟨rfl, Nat.le_of_ble_eq_true rfl, Nat.le_of_ble_eq_true rfl, rfl⟩ rfl ?_
    | refine v_iinc rfl rfl rfl (by omega) rfl ?_
    | refine v_add rfl (by omega) ?_
    | refine v_sub rfl (by omega) ?_
    | refine v_ige rfl (fun _ => ?_) (fun _ => ?_)
    | refine v_ine rfl (fun _ => ?_) (fun _ => ?_)
    | refine v_ifeq rfl (fun _ => ?_) (fun _ => ?_)
    | refine v_ifne rfl (fun _ => ?_) (fun _ => ?_)
    | refine v_ieq rfl (fun _ => ?_) (fun _ => ?_)
    | refine v_iflt rfl (fun _ => ?_) (fun _ => ?_)
    | refine v_ile rfl (fun _ => ?_) (fun _ => ?_)
    | refine v_ilt rfl (fun _ => ?_) (fun _ => ?_)
    | refine v_igt rfl (fun _ => ?_) (fun _ => ?_)
    | refine v_ifle rfl (fun _ => ?_) (fun _ => ?_)
    | refine v_ifge rfl (fun _ => ?_) (fun _ => ?_)
    | refine v_ifgt rfl (fun _ => ?_) (fun _ => ?_)
    | refine v_ald9 rfl rfl (by refine ⟨?_, ?_⟩ <;> first | omega | (show _ < (300 : Int); omega) | (show _ < (1216 : Int); omega) | (show _ < (1600 : Int); omega) | (show _ < (301 : Int); omega) | (show _ < (18 : Int); omega) | (show _ < (100 : Int); omega) | (show _ < (20 : Int); omega) | (show _ < (13 : Int); omega) | (show _ < (3612 : Int); omega)) ?_
    | refine v_ast9 rfl rfl (by decide) (by refine ⟨?_, ?_⟩ <;> first | omega | (show _ < (300 : Int); omega) | (show _ < (1216 : Int); omega) | (show _ < (1600 : Int); omega) | (show _ < (301 : Int); omega) | (show _ < (18 : Int); omega) | (show _ < (100 : Int); omega) | (show _ < (20 : Int); omega) | (show _ < (13 : Int); omega) | (show _ < (3612 : Int); omega)) ?_
    | refine v_puti rfl rfl rfl ?_
    | refine v_len rfl ⟨Nat.le_of_ble_eq_true rfl, Nat.le_of_ble_eq_true rfl⟩ rfl ?_
    | refine v_getz rfl rfl ?_
    | refine v_getl rfl rfl ?_
    | refine v_dup rfl (Or.inl rfl) ?_
    | refine v_dup rfl (Or.inr rfl) ?_
    | refine v_pop rfl (Or.inl rfl) ?_
    | refine v_callr rfl ⟨Nat.le_of_ble_eq_true rfl, Nat.le_of_ble_eq_true rfl, rfl, Nat.le_of_ble_eq_true rfl, rfl⟩ ?_)
  exact k
theorem S_tkHas {i : Int} (hR : RT T M) (k : Q (some (0, if 0 ≤ i ∧ i < (T.length : Int) then 1 else 0)) M) : v_call L d 64 [(2, 36), (0, i)] M Q := by
  have h1 := hR.1
  have h2 := hR.2.1
  refine v_in ?_
  repeat' (first
    | refine v_getx rfl rfl hR.1 ?_
    | refine v_load rfl rfl ⟨rfl, Nat.le_of_ble_eq_true rfl⟩ ?_
    | refine v_getp rfl rfl rfl ?_
    | refine v_geti rfl rfl ?_
    | refine v_push rfl ?_
    | refine v_goto rfl ?_
    | refine v_ret rfl rfl ?_
    | refine v_store rfl ⟨rfl, Nat.le_of_ble_eq_true rfl, Nat.le_of_ble_eq_true rfl, rfl⟩ rfl ?_
    | refine v_iinc rfl rfl rfl (by omega) rfl ?_
    | refine v_add rfl (by omega) ?_
    | refine v_sub rfl (by omega) ?_
    | refine v_ige rfl (fun _ => ?_) (fun _ => ?_)
    | refine v_ine rfl (fun _ => ?_) (fun _ => ?_)
    | refine v_ifeq rfl (fun _ => ?_) (fun _ => ?_)
    | refine v_ifne rfl (fun _ => ?_) (fun _ => ?_)
    | refine v_ieq rfl (fun _ => ?_) (fun _ => ?_)
    | refine v_iflt rfl (fun _ => ?_) (fun _ => ?_)
    | refine v_ile rfl (fun _ => ?_) (fun _ => ?_)
    | refine v_ilt rfl (fun _ => ?_) (fun _ => ?_)
    | refine v_igt rfl (fun _ => ?_) (fun _ => ?_)
    | refine v_ifle rfl (fun _ => ?_) (fun _ => ?_)
    | refine v_ifge rfl (fun _ => ?_) (fun _ => ?_)
    | refine v_ifgt rfl (fun _ => ?_) (fun _ => ?_)
    | refine v_ald9 rfl rfl (by refine ⟨?_, ?_⟩ <;> first | omega | (show _ < (300 : Int); omega) | (show _ < (1216 : Int); omega) | (show _ < (1600 : Int); omega) | (show _ < (301 : Int); omega) | (show _ < (18 : Int); omega) | (show _ < (100 : Int); omega) | (show _ < (20 : Int); omega) | (show _ < (13 : Int); omega) | (show _ < (3612 : Int); omega)) ?_
    | refine v_ast9 rfl rfl (by decide) (by refine ⟨?_, ?_⟩ <;> first | omega | (show _ < (300 : Int); omega) | (show _ < (1216 : Int); omega) | (show _ < (1600 : Int); omega) | (show _ < (301 : Int); omega) | (show _ < (18 : Int); omega) | (show _ < (100 : Int); omega) | (show _ < (20 : Int); omega) | (show _ < (13 : Int); omega) | (show _ < (3612 : Int); omega)) ?_
    | refine v_puti rfl rfl rfl ?_
    | refine v_len rfl ⟨Nat.le_of_ble_eq_true rfl, Nat.le_of_ble_eq_true rfl⟩ rfl ?_
    | refine v_getz rfl rfl ?_
    | refine v_getl rfl rfl ?_
    | refine v_dup rfl (Or.inl rfl) ?_
    | refine v_dup rfl (Or.inr rfl) ?_
    | refine v_pop rfl (Or.inl rfl) ?_
    | refine v_callr rfl ⟨Nat.le_of_ble_eq_true rfl, Nat.le_of_ble_eq_true rfl, rfl, Nat.le_of_ble_eq_true rfl, rfl⟩ ?_)
  all_goals first
    | (rw [if_pos (by omega)] at k; exact k)
    | (rw [if_neg (by omega)] at k; exact k)
theorem S_tkSort {i : Int} (hR : RT T M) (k : Q (some (0, (tk T i).1)) M) : v_call L d 65 [(2, 36), (0, i)] M Q := by
  have h1 := hR.1
  have h2 := hR.2.1
  refine v_in ?_
  repeat' (first
    | refine v_getx rfl rfl hR.1 ?_
    | refine v_load rfl rfl ⟨rfl, Nat.le_of_ble_eq_true rfl⟩ ?_
    | refine v_getp rfl rfl rfl ?_
    | refine v_geti rfl rfl ?_
    | refine v_push rfl ?_
    | refine v_goto rfl ?_
    | refine v_ret rfl rfl ?_
    | refine v_store rfl ⟨rfl, Nat.le_of_ble_eq_true rfl, Nat.le_of_ble_eq_true rfl, rfl⟩ rfl ?_
    | refine v_iinc rfl rfl rfl (by omega) rfl ?_
    | refine v_add rfl (by omega) ?_
    | refine v_sub rfl (by omega) ?_
    | refine v_ige rfl (fun _ => ?_) (fun _ => ?_)
    | refine v_ine rfl (fun _ => ?_) (fun _ => ?_)
    | refine v_ifeq rfl (fun _ => ?_) (fun _ => ?_)
    | refine v_ifne rfl (fun _ => ?_) (fun _ => ?_)
    | refine v_ieq rfl (fun _ => ?_) (fun _ => ?_)
    | refine v_iflt rfl (fun _ => ?_) (fun _ => ?_)
    | refine v_ile rfl (fun _ => ?_) (fun _ => ?_)
    | refine v_ilt rfl (fun _ => ?_) (fun _ => ?_)
    | refine v_igt rfl (fun _ => ?_) (fun _ => ?_)
    | refine v_ifle rfl (fun _ => ?_) (fun _ => ?_)
    | refine v_ifge rfl (fun _ => ?_) (fun _ => ?_)
    | refine v_ifgt rfl (fun _ => ?_) (fun _ => ?_)
    | refine v_ald9 rfl rfl (by refine ⟨?_, ?_⟩ <;> first | omega | (show _ < (300 : Int); omega) | (show _ < (1216 : Int); omega) | (show _ < (1600 : Int); omega) | (show _ < (301 : Int); omega) | (show _ < (18 : Int); omega) | (show _ < (100 : Int); omega) | (show _ < (20 : Int); omega) | (show _ < (13 : Int); omega) | (show _ < (3612 : Int); omega)) ?_
    | refine v_ast9 rfl rfl (by decide) (by refine ⟨?_, ?_⟩ <;> first | omega | (show _ < (300 : Int); omega) | (show _ < (1216 : Int); omega) | (show _ < (1600 : Int); omega) | (show _ < (301 : Int); omega) | (show _ < (18 : Int); omega) | (show _ < (100 : Int); omega) | (show _ < (20 : Int); omega) | (show _ < (13 : Int); omega) | (show _ < (3612 : Int); omega)) ?_
    | refine v_puti rfl rfl rfl ?_
    | refine v_len rfl ⟨Nat.le_of_ble_eq_true rfl, Nat.le_of_ble_eq_true rfl⟩ rfl ?_
    | refine v_getz rfl rfl ?_
    | refine v_getl rfl rfl ?_
    | refine v_dup rfl (Or.inl rfl) ?_
    | refine v_dup rfl (Or.inr rfl) ?_
    | refine v_pop rfl (Or.inl rfl) ?_
    | refine v_callr rfl ⟨Nat.le_of_ble_eq_true rfl, Nat.le_of_ble_eq_true rfl, rfl, Nat.le_of_ble_eq_true rfl, rfl⟩ ?_)
  all_goals first
    | (rw [(RT_at hR ⟨by omega, by omega⟩).1]; exact k)
    | (rw [tk_out (by omega)] at k; exact k)
theorem S_tkSign {i : Int} (hR : RT T M) (k : Q (some (0, (tk T i).2.2.2.2)) M) : v_call L d 69 [(2, 36), (0, i)] M Q := by
  have h1 := hR.1
  have h2 := hR.2.1
  refine v_in ?_
  repeat' (first
    | refine v_getx rfl rfl hR.1 ?_
    | refine v_load rfl rfl ⟨rfl, Nat.le_of_ble_eq_true rfl⟩ ?_
    | refine v_getp rfl rfl rfl ?_
    | refine v_geti rfl rfl ?_
    | refine v_push rfl ?_
    | refine v_goto rfl ?_
    | refine v_ret rfl rfl ?_
    | refine v_store rfl ⟨rfl, Nat.le_of_ble_eq_true rfl, Nat.le_of_ble_eq_true rfl, rfl⟩ rfl ?_
    | refine v_iinc rfl rfl rfl (by omega) rfl ?_
    | refine v_add rfl (by omega) ?_
    | refine v_sub rfl (by omega) ?_
    | refine v_ige rfl (fun _ => ?_) (fun _ => ?_)
    | refine v_ine rfl (fun _ => ?_) (fun _ => ?_)
    | refine v_ifeq rfl (fun _ => ?_) (fun _ => ?_)
    | refine v_ifne rfl (fun _ => ?_) (fun _ => ?_)
    | refine v_ieq rfl (fun _ => ?_) (fun _ => ?_)
    | refine v_iflt rfl (fun _ => ?_) (fun _ => ?_)
    | refine v_ile rfl (fun _ => ?_) (fun _ => ?_)
    | refine v_ilt rfl (fun _ => ?_) (fun _ => ?_)
    | refine v_igt rfl (fun _ => ?_) (fun _ => ?_)
    | refine v_ifle rfl (fun _ => ?_) (fun _ => ?_)
    | refine v_ifge rfl (fun _ => ?_) (fun _ => ?_)
    | refine v_ifgt rfl (fun _ => ?_) (fun _ => ?_)
    | refine v_ald9 rfl rfl (by refine ⟨?_, ?_⟩ <;> first | omega | (show _ < (300 : Int); omega) | (show _ < (1216 : Int); omega) | (show _ < (1600 : Int); omega) | (show _ < (301 : Int); omega) | (show _ < (18 : Int); omega) | (show _ < (100 : Int); omega) | (show _ < (20 : Int); omega) | (show _ < (13 : Int); omega) | (show _ < (3612 : Int); omega)) ?_
    | refine v_ast9 rfl rfl (by decide) (by refine ⟨?_, ?_⟩ <;> first | omega | (show _ < (300 : Int); omega) | (show _ < (1216 : Int); omega) | (show _ < (1600 : Int); omega) | (show _ < (301 : Int); omega) | (show _ < (18 : Int); omega) | (show _ < (100 : Int); omega) | (show _ < (20 : Int); omega) | (show _ < (13 : Int); omega) | (show _ < (3612 : Int); omega)) ?_
    | refine v_puti rfl rfl rfl ?_
    | refine v_len rfl ⟨Nat.le_of_ble_eq_true rfl, Nat.le_of_ble_eq_true rfl⟩ rfl ?_
    | refine v_getz rfl rfl ?_
    | refine v_getl rfl rfl ?_
    | refine v_dup rfl (Or.inl rfl) ?_
    | refine v_dup rfl (Or.inr rfl) ?_
    | refine v_pop rfl (Or.inl rfl) ?_
    | refine v_callr rfl ⟨Nat.le_of_ble_eq_true rfl, Nat.le_of_ble_eq_true rfl, rfl, Nat.le_of_ble_eq_true rfl, rfl⟩ ?_)
  all_goals first
    | (rw [(RT_at hR ⟨by omega, by omega⟩).2.2.2.2]; exact k)
    | (rw [tk_out (by omega)] at k; exact k)
theorem z_if01 {c : Prop} {_ : Decidable c} : (if c then (1 : Int) else 0) = 0 ↔ ¬ c := by
  by_cases h : c
  · rw [if_pos h]; exact ⟨fun z => (by omega), fun z => absurd h z⟩
  · rw [if_neg h]; exact ⟨fun _ => h, fun _ => rfl⟩
theorem S_tkFirst {i : Int} (hR : RT T M) (k : Q (some (0, (tk T i).2.1)) M) : v_call L (d + 1) 66 [(2, 36), (0, i)] M Q := by
  have h1 := hR.1
  have h2 := hR.2.1
  refine v_in ?_
  refine v_load rfl rfl ⟨rfl, Nat.le_of_ble_eq_true rfl⟩ ?_
  refine v_load rfl rfl ⟨rfl, Nat.le_of_ble_eq_true rfl⟩ ?_
  refine v_callr rfl ⟨Nat.le_of_ble_eq_true rfl, Nat.le_of_ble_eq_true rfl, rfl, Nat.le_of_ble_eq_true rfl, rfl⟩ ?_
  refine S_tkHas hR ?_
  refine v_ifeq rfl (fun h => ?_) (fun h => ?_)
  · rw [z_if01] at h
    rw [tk_out h] at k
    repeat' (first
      | refine v_load rfl rfl ⟨rfl, Nat.le_of_ble_eq_true rfl⟩ ?_
      | refine v_getp rfl rfl rfl ?_
      | refine v_geti rfl rfl ?_
      | refine v_push rfl ?_
      | refine v_goto rfl ?_
      | refine v_ret rfl rfl ?_
      | refine v_store rfl ⟨rfl, Nat.le_of_ble_eq_true rfl, Nat.le_of_ble_eq_true rfl, rfl⟩ rfl ?_
      | refine v_iinc rfl rfl rfl (by omega) rfl ?_
      | refine v_add rfl (by omega) ?_
      | refine v_sub rfl (by omega) ?_
      | refine v_ige rfl (fun _ => ?_) (fun _ => ?_)
      | refine v_ine rfl (fun _ => ?_) (fun _ => ?_)
      | refine v_ifeq rfl (fun _ => ?_) (fun _ => ?_)
      | refine v_ifne rfl (fun _ => ?_) (fun _ => ?_)
      | refine v_ieq rfl (fun _ => ?_) (fun _ => ?_)
      | refine v_iflt rfl (fun _ => ?_) (fun _ => ?_)
      | refine v_ile rfl (fun _ => ?_) (fun _ => ?_)
      | refine v_ilt rfl (fun _ => ?_) (fun _ => ?_)
      | refine v_igt rfl (fun _ => ?_) (fun _ => ?_)
      | refine v_ifle rfl (fun _ => ?_) (fun _ => ?_)
      | refine v_ifge rfl (fun _ => ?_) (fun _ => ?_)
      | refine v_ifgt rfl (fun _ => ?_) (fun _ => ?_)
      | refine v_ald9 rfl rfl (by refine ⟨?_, ?_⟩ <;> first | omega | (show _ < (300 : Int); omega) | (show _ < (1216 : Int); omega) | (show _ < (1600 : Int); omega) | (show _ < (301 : Int); omega) | (show _ < (18 : Int); omega) | (show _ < (100 : Int); omega) | (show _ < (20 : Int); omega) | (show _ < (13 : Int); omega) | (show _ < (3612 : Int); omega)) ?_
      | refine v_ast9 rfl rfl (by decide) (by refine ⟨?_, ?_⟩ <;> first | omega | (show _ < (300 : Int); omega) | (show _ < (1216 : Int); omega) | (show _ < (1600 : Int); omega) | (show _ < (301 : Int); omega) | (show _ < (18 : Int); omega) | (show _ < (100 : Int); omega) | (show _ < (20 : Int); omega) | (show _ < (13 : Int); omega) | (show _ < (3612 : Int); omega)) ?_
      | refine v_puti rfl rfl rfl ?_
      | refine v_len rfl ⟨Nat.le_of_ble_eq_true rfl, Nat.le_of_ble_eq_true rfl⟩ rfl ?_
      | refine v_getz rfl rfl ?_
      | refine v_getl rfl rfl ?_
      | refine v_dup rfl (Or.inl rfl) ?_
      | refine v_dup rfl (Or.inr rfl) ?_
      | refine v_pop rfl (Or.inl rfl) ?_
      | refine v_callr rfl ⟨Nat.le_of_ble_eq_true rfl, Nat.le_of_ble_eq_true rfl, rfl, Nat.le_of_ble_eq_true rfl, rfl⟩ ?_)
    exact k
  · rw [z_if01] at h
    have h := Decidable.not_not.mp h
    rw [← (RT_at hR h).2.1] at k
    repeat' (first
      | refine v_load rfl rfl ⟨rfl, Nat.le_of_ble_eq_true rfl⟩ ?_
      | refine v_getp rfl rfl rfl ?_
      | refine v_geti rfl rfl ?_
      | refine v_push rfl ?_
      | refine v_goto rfl ?_
      | refine v_ret rfl rfl ?_
      | refine v_store rfl ⟨rfl, Nat.le_of_ble_eq_true rfl, Nat.le_of_ble_eq_true rfl, rfl⟩ rfl ?_
      | refine v_iinc rfl rfl rfl (by omega) rfl ?_
      | refine v_add rfl (by omega) ?_
      | refine v_sub rfl (by omega) ?_
      | refine v_ige rfl (fun _ => ?_) (fun _ => ?_)
      | refine v_ine rfl (fun _ => ?_) (fun _ => ?_)
      | refine v_ifeq rfl (fun _ => ?_) (fun _ => ?_)
      | refine v_ifne rfl (fun _ => ?_) (fun _ => ?_)
      | refine v_ieq rfl (fun _ => ?_) (fun _ => ?_)
      | refine v_iflt rfl (fun _ => ?_) (fun _ => ?_)
      | refine v_ile rfl (fun _ => ?_) (fun _ => ?_)
      | refine v_ilt rfl (fun _ => ?_) (fun _ => ?_)
      | refine v_igt rfl (fun _ => ?_) (fun _ => ?_)
      | refine v_ifle rfl (fun _ => ?_) (fun _ => ?_)
      | refine v_ifge rfl (fun _ => ?_) (fun _ => ?_)
      | refine v_ifgt rfl (fun _ => ?_) (fun _ => ?_)
      | refine v_ald9 rfl rfl (by refine ⟨?_, ?_⟩ <;> first | omega | (show _ < (300 : Int); omega) | (show _ < (1216 : Int); omega) | (show _ < (1600 : Int); omega) | (show _ < (301 : Int); omega) | (show _ < (18 : Int); omega) | (show _ < (100 : Int); omega) | (show _ < (20 : Int); omega) | (show _ < (13 : Int); omega) | (show _ < (3612 : Int); omega)) ?_
      | refine v_ast9 rfl rfl (by decide) (by refine ⟨?_, ?_⟩ <;> first | omega | (show _ < (300 : Int); omega) | (show _ < (1216 : Int); omega) | (show _ < (1600 : Int); omega) | (show _ < (301 : Int); omega) | (show _ < (18 : Int); omega) | (show _ < (100 : Int); omega) | (show _ < (20 : Int); omega) | (show _ < (13 : Int); omega) | (show _ < (3612 : Int); omega)) ?_
      | refine v_puti rfl rfl rfl ?_
      | refine v_len rfl ⟨Nat.le_of_ble_eq_true rfl, Nat.le_of_ble_eq_true rfl⟩ rfl ?_
      | refine v_getz rfl rfl ?_
      | refine v_getl rfl rfl ?_
      | refine v_dup rfl (Or.inl rfl) ?_
      | refine v_dup rfl (Or.inr rfl) ?_
      | refine v_pop rfl (Or.inl rfl) ?_
      | refine v_callr rfl ⟨Nat.le_of_ble_eq_true rfl, Nat.le_of_ble_eq_true rfl, rfl, Nat.le_of_ble_eq_true rfl, rfl⟩ ?_)
    exact k
theorem S_tkEnd {i : Int} (hR : RT T M) (k : Q (some (0, (tk T i).2.2.1)) M) : v_call L (d + 1) 67 [(2, 36), (0, i)] M Q := by
  have h1 := hR.1
  have h2 := hR.2.1
  refine v_in ?_
  refine v_load rfl rfl ⟨rfl, Nat.le_of_ble_eq_true rfl⟩ ?_
  refine v_load rfl rfl ⟨rfl, Nat.le_of_ble_eq_true rfl⟩ ?_
  refine v_callr rfl ⟨Nat.le_of_ble_eq_true rfl, Nat.le_of_ble_eq_true rfl, rfl, Nat.le_of_ble_eq_true rfl, rfl⟩ ?_
  refine S_tkHas hR ?_
  refine v_ifeq rfl (fun h => ?_) (fun h => ?_)
  · rw [z_if01] at h
    rw [tk_out h] at k
    repeat' (first
      | refine v_load rfl rfl ⟨rfl, Nat.le_of_ble_eq_true rfl⟩ ?_
      | refine v_getp rfl rfl rfl ?_
      | refine v_geti rfl rfl ?_
      | refine v_push rfl ?_
      | refine v_goto rfl ?_
      | refine v_ret rfl rfl ?_
      | refine v_store rfl ⟨rfl, Nat.le_of_ble_eq_true rfl, Nat.le_of_ble_eq_true rfl, rfl⟩ rfl ?_
      | refine v_iinc rfl rfl rfl (by omega) rfl ?_
      | refine v_add rfl (by omega) ?_
      | refine v_sub rfl (by omega) ?_
      | refine v_ige rfl (fun _ => ?_) (fun _ => ?_)
      | refine v_ine rfl (fun _ => ?_) (fun _ => ?_)
      | refine v_ifeq rfl (fun _ => ?_) (fun _ => ?_)
      | refine v_ifne rfl (fun _ => ?_) (fun _ => ?_)
      | refine v_ieq rfl (fun _ => ?_) (fun _ => ?_)
      | refine v_iflt rfl (fun _ => ?_) (fun _ => ?_)
      | refine v_ile rfl (fun _ => ?_) (fun _ => ?_)
      | refine v_ilt rfl (fun _ => ?_) (fun _ => ?_)
      | refine v_igt rfl (fun _ => ?_) (fun _ => ?_)
      | refine v_ifle rfl (fun _ => ?_) (fun _ => ?_)
      | refine v_ifge rfl (fun _ => ?_) (fun _ => ?_)
      | refine v_ifgt rfl (fun _ => ?_) (fun _ => ?_)
      | refine v_ald9 rfl rfl (by refine ⟨?_, ?_⟩ <;> first | omega | (show _ < (300 : Int); omega) | (show _ < (1216 : Int); omega) | (show _ < (1600 : Int); omega) | (show _ < (301 : Int); omega) | (show _ < (18 : Int); omega) | (show _ < (100 : Int); omega) | (show _ < (20 : Int); omega) | (show _ < (13 : Int); omega) | (show _ < (3612 : Int); omega)) ?_
      | refine v_ast9 rfl rfl (by decide) (by refine ⟨?_, ?_⟩ <;> first | omega | (show _ < (300 : Int); omega) | (show _ < (1216 : Int); omega) | (show _ < (1600 : Int); omega) | (show _ < (301 : Int); omega) | (show _ < (18 : Int); omega) | (show _ < (100 : Int); omega) | (show _ < (20 : Int); omega) | (show _ < (13 : Int); omega) | (show _ < (3612 : Int); omega)) ?_
      | refine v_puti rfl rfl rfl ?_
      | refine v_len rfl ⟨Nat.le_of_ble_eq_true rfl, Nat.le_of_ble_eq_true rfl⟩ rfl ?_
      | refine v_getz rfl rfl ?_
      | refine v_getl rfl rfl ?_
      | refine v_dup rfl (Or.inl rfl) ?_
      | refine v_dup rfl (Or.inr rfl) ?_
      | refine v_pop rfl (Or.inl rfl) ?_
      | refine v_callr rfl ⟨Nat.le_of_ble_eq_true rfl, Nat.le_of_ble_eq_true rfl, rfl, Nat.le_of_ble_eq_true rfl, rfl⟩ ?_)
    exact k
  · rw [z_if01] at h
    have h := Decidable.not_not.mp h
    rw [← (RT_at hR h).2.2.1] at k
    repeat' (first
      | refine v_load rfl rfl ⟨rfl, Nat.le_of_ble_eq_true rfl⟩ ?_
      | refine v_getp rfl rfl rfl ?_
      | refine v_geti rfl rfl ?_
      | refine v_push rfl ?_
      | refine v_goto rfl ?_
      | refine v_ret rfl rfl ?_
      | refine v_store rfl ⟨rfl, Nat.le_of_ble_eq_true rfl, Nat.le_of_ble_eq_true rfl, rfl⟩ rfl ?_
      | refine v_iinc rfl rfl rfl (by omega) rfl ?_
      | refine v_add rfl (by omega) ?_
      | refine v_sub rfl (by omega) ?_
      | refine v_ige rfl (fun _ => ?_) (fun _ => ?_)
      | refine v_ine rfl (fun _ => ?_) (fun _ => ?_)
      | refine v_ifeq rfl (fun _ => ?_) (fun _ => ?_)
      | refine v_ifne rfl (fun _ => ?_) (fun _ => ?_)
      | refine v_ieq rfl (fun _ => ?_) (fun _ => ?_)
      | refine v_iflt rfl (fun _ => ?_) (fun _ => ?_)
      | refine v_ile rfl (fun _ => ?_) (fun _ => ?_)
      | refine v_ilt rfl (fun _ => ?_) (fun _ => ?_)
      | refine v_igt rfl (fun _ => ?_) (fun _ => ?_)
      | refine v_ifle rfl (fun _ => ?_) (fun _ => ?_)
      | refine v_ifge rfl (fun _ => ?_) (fun _ => ?_)
      | refine v_ifgt rfl (fun _ => ?_) (fun _ => ?_)
      | refine v_ald9 rfl rfl (by refine ⟨?_, ?_⟩ <;> first | omega | (show _ < (300 : Int); omega) | (show _ < (1216 : Int); omega) | (show _ < (1600 : Int); omega) | (show _ < (301 : Int); omega) | (show _ < (18 : Int); omega) | (show _ < (100 : Int); omega) | (show _ < (20 : Int); omega) | (show _ < (13 : Int); omega) | (show _ < (3612 : Int); omega)) ?_
      | refine v_ast9 rfl rfl (by decide) (by refine ⟨?_, ?_⟩ <;> first | omega | (show _ < (300 : Int); omega) | (show _ < (1216 : Int); omega) | (show _ < (1600 : Int); omega) | (show _ < (301 : Int); omega) | (show _ < (18 : Int); omega) | (show _ < (100 : Int); omega) | (show _ < (20 : Int); omega) | (show _ < (13 : Int); omega) | (show _ < (3612 : Int); omega)) ?_
      | refine v_puti rfl rfl rfl ?_
      | refine v_len rfl ⟨Nat.le_of_ble_eq_true rfl, Nat.le_of_ble_eq_true rfl⟩ rfl ?_
      | refine v_getz rfl rfl ?_
      | refine v_getl rfl rfl ?_
      | refine v_dup rfl (Or.inl rfl) ?_
      | refine v_dup rfl (Or.inr rfl) ?_
      | refine v_pop rfl (Or.inl rfl) ?_
      | refine v_callr rfl ⟨Nat.le_of_ble_eq_true rfl, Nat.le_of_ble_eq_true rfl, rfl, Nat.le_of_ble_eq_true rfl, rfl⟩ ?_)
    exact k
theorem S_tkRead {i : Int} (hR : RT T M) (k : Q (some (0, (tk T i).2.2.2.1)) M) : v_call L (d + 1) 68 [(2, 36), (0, i)] M Q := by
  have h1 := hR.1
  have h2 := hR.2.1
  refine v_in ?_
  refine v_load rfl rfl ⟨rfl, Nat.le_of_ble_eq_true rfl⟩ ?_
  refine v_load rfl rfl ⟨rfl, Nat.le_of_ble_eq_true rfl⟩ ?_
  refine v_callr rfl ⟨Nat.le_of_ble_eq_true rfl, Nat.le_of_ble_eq_true rfl, rfl, Nat.le_of_ble_eq_true rfl, rfl⟩ ?_
  refine S_tkHas hR ?_
  refine v_ifeq rfl (fun h => ?_) (fun h => ?_)
  · rw [z_if01] at h
    rw [tk_out h] at k
    repeat' (first
      | refine v_load rfl rfl ⟨rfl, Nat.le_of_ble_eq_true rfl⟩ ?_
      | refine v_getp rfl rfl rfl ?_
      | refine v_geti rfl rfl ?_
      | refine v_push rfl ?_
      | refine v_goto rfl ?_
      | refine v_ret rfl rfl ?_
      | refine v_store rfl ⟨rfl, Nat.le_of_ble_eq_true rfl, Nat.le_of_ble_eq_true rfl, rfl⟩ rfl ?_
      | refine v_iinc rfl rfl rfl (by omega) rfl ?_
      | refine v_add rfl (by omega) ?_
      | refine v_sub rfl (by omega) ?_
      | refine v_ige rfl (fun _ => ?_) (fun _ => ?_)
      | refine v_ine rfl (fun _ => ?_) (fun _ => ?_)
      | refine v_ifeq rfl (fun _ => ?_) (fun _ => ?_)
      | refine v_ifne rfl (fun _ => ?_) (fun _ => ?_)
      | refine v_ieq rfl (fun _ => ?_) (fun _ => ?_)
      | refine v_iflt rfl (fun _ => ?_) (fun _ => ?_)
      | refine v_ile rfl (fun _ => ?_) (fun _ => ?_)
      | refine v_ilt rfl (fun _ => ?_) (fun _ => ?_)
      | refine v_igt rfl (fun _ => ?_) (fun _ => ?_)
      | refine v_ifle rfl (fun _ => ?_) (fun _ => ?_)
      | refine v_ifge rfl (fun _ => ?_) (fun _ => ?_)
      | refine v_ifgt rfl (fun _ => ?_) (fun _ => ?_)
      | refine v_ald9 rfl rfl (by refine ⟨?_, ?_⟩ <;> first | omega | (show _ < (300 : Int); omega) | (show _ < (1216 : Int); omega) | (show _ < (1600 : Int); omega) | (show _ < (301 : Int); omega) | (show _ < (18 : Int); omega) | (show _ < (100 : Int); omega) | (show _ < (20 : Int); omega) | (show _ < (13 : Int); omega) | (show _ < (3612 : Int); omega)) ?_
      | refine v_ast9 rfl rfl (by decide) (by refine ⟨?_, ?_⟩ <;> first | omega | (show _ < (300 : Int); omega) | (show _ < (1216 : Int); omega) | (show _ < (1600 : Int); omega) | (show _ < (301 : Int); omega) | (show _ < (18 : Int); omega) | (show _ < (100 : Int); omega) | (show _ < (20 : Int); omega) | (show _ < (13 : Int); omega) | (show _ < (3612 : Int); omega)) ?_
      | refine v_puti rfl rfl rfl ?_
      | refine v_len rfl ⟨Nat.le_of_ble_eq_true rfl, Nat.le_of_ble_eq_true rfl⟩ rfl ?_
      | refine v_getz rfl rfl ?_
      | refine v_getl rfl rfl ?_
      | refine v_dup rfl (Or.inl rfl) ?_
      | refine v_dup rfl (Or.inr rfl) ?_
      | refine v_pop rfl (Or.inl rfl) ?_
      | refine v_callr rfl ⟨Nat.le_of_ble_eq_true rfl, Nat.le_of_ble_eq_true rfl, rfl, Nat.le_of_ble_eq_true rfl, rfl⟩ ?_)
    exact k
  · rw [z_if01] at h
    have h := Decidable.not_not.mp h
    rw [← (RT_at hR h).2.2.2.1] at k
    repeat' (first
      | refine v_load rfl rfl ⟨rfl, Nat.le_of_ble_eq_true rfl⟩ ?_
      | refine v_getp rfl rfl rfl ?_
      | refine v_geti rfl rfl ?_
      | refine v_push rfl ?_
      | refine v_goto rfl ?_
      | refine v_ret rfl rfl ?_
      | refine v_store rfl ⟨rfl, Nat.le_of_ble_eq_true rfl, Nat.le_of_ble_eq_true rfl, rfl⟩ rfl ?_
      | refine v_iinc rfl rfl rfl (by omega) rfl ?_
      | refine v_add rfl (by omega) ?_
      | refine v_sub rfl (by omega) ?_
      | refine v_ige rfl (fun _ => ?_) (fun _ => ?_)
      | refine v_ine rfl (fun _ => ?_) (fun _ => ?_)
      | refine v_ifeq rfl (fun _ => ?_) (fun _ => ?_)
      | refine v_ifne rfl (fun _ => ?_) (fun _ => ?_)
      | refine v_ieq rfl (fun _ => ?_) (fun _ => ?_)
      | refine v_iflt rfl (fun _ => ?_) (fun _ => ?_)
      | refine v_ile rfl (fun _ => ?_) (fun _ => ?_)
      | refine v_ilt rfl (fun _ => ?_) (fun _ => ?_)
      | refine v_igt rfl (fun _ => ?_) (fun _ => ?_)
      | refine v_ifle rfl (fun _ => ?_) (fun _ => ?_)
      | refine v_ifge rfl (fun _ => ?_) (fun _ => ?_)
      | refine v_ifgt rfl (fun _ => ?_) (fun _ => ?_)
      | refine v_ald9 rfl rfl (by refine ⟨?_, ?_⟩ <;> first | omega | (show _ < (300 : Int); omega) | (show _ < (1216 : Int); omega) | (show _ < (1600 : Int); omega) | (show _ < (301 : Int); omega) | (show _ < (18 : Int); omega) | (show _ < (100 : Int); omega) | (show _ < (20 : Int); omega) | (show _ < (13 : Int); omega) | (show _ < (3612 : Int); omega)) ?_
      | refine v_ast9 rfl rfl (by decide) (by refine ⟨?_, ?_⟩ <;> first | omega | (show _ < (300 : Int); omega) | (show _ < (1216 : Int); omega) | (show _ < (1600 : Int); omega) | (show _ < (301 : Int); omega) | (show _ < (18 : Int); omega) | (show _ < (100 : Int); omega) | (show _ < (20 : Int); omega) | (show _ < (13 : Int); omega) | (show _ < (3612 : Int); omega)) ?_
      | refine v_puti rfl rfl rfl ?_
      | refine v_len rfl ⟨Nat.le_of_ble_eq_true rfl, Nat.le_of_ble_eq_true rfl⟩ rfl ?_
      | refine v_getz rfl rfl ?_
      | refine v_getl rfl rfl ?_
      | refine v_dup rfl (Or.inl rfl) ?_
      | refine v_dup rfl (Or.inr rfl) ?_
      | refine v_pop rfl (Or.inl rfl) ?_
      | refine v_callr rfl ⟨Nat.le_of_ble_eq_true rfl, Nat.le_of_ble_eq_true rfl, rfl, Nat.le_of_ble_eq_true rfl, rfl⟩ ?_)
    exact k
/-- a token more -/
theorem S_tkAdd {so f e r sg : Int} (hR : RT T M) (hT : T.length < 300) (k : ∀ M', RT (T ++ [(so, f, e, r, sg)]) M' → z_oR 36 41 M M' → Q none M') : v_call L d 77 [(2, 36), (0, so), (0, f), (0, e), (0, r), (0, sg)] M Q := by
  have h1 := hR.1
  refine v_in ?_
  repeat' (first
    | refine v_getx (x := (T.length : Int)) rfl rfl (by simp (disch := decide) only [u_n1, h1]) ?_
    | (exfalso; omega)
    | refine v_load rfl rfl ⟨rfl, Nat.le_of_ble_eq_true rfl⟩ ?_
    | refine v_getp rfl rfl rfl ?_
    | refine v_geti rfl rfl ?_
    | refine v_push rfl ?_
    | refine v_goto rfl ?_
    | refine v_ret rfl rfl ?_
    | refine v_store rfl ⟨rfl, Nat.le_of_ble_eq_true rfl, Nat.le_of_ble_eq_true rfl, rfl⟩ rfl ?_
    | refine v_iinc rfl rfl rfl (by omega) rfl ?_
    | refine v_add rfl (by omega) ?_
    | refine v_sub rfl (by omega) ?_
    | refine v_ige rfl (fun _ => ?_) (fun _ => ?_)
    | refine v_ine rfl (fun _ => ?_) (fun _ => ?_)
    | refine v_ifeq rfl (fun _ => ?_) (fun _ => ?_)
    | refine v_ifne rfl (fun _ => ?_) (fun _ => ?_)
    | refine v_ieq rfl (fun _ => ?_) (fun _ => ?_)
    | refine v_iflt rfl (fun _ => ?_) (fun _ => ?_)
    | refine v_ile rfl (fun _ => ?_) (fun _ => ?_)
    | refine v_ilt rfl (fun _ => ?_) (fun _ => ?_)
    | refine v_igt rfl (fun _ => ?_) (fun _ => ?_)
    | refine v_ifle rfl (fun _ => ?_) (fun _ => ?_)
    | refine v_ifge rfl (fun _ => ?_) (fun _ => ?_)
    | refine v_ifgt rfl (fun _ => ?_) (fun _ => ?_)
    | refine v_ald9 rfl rfl (by refine ⟨?_, ?_⟩ <;> first | omega | (show _ < (300 : Int); omega) | (show _ < (1216 : Int); omega) | (show _ < (1600 : Int); omega) | (show _ < (301 : Int); omega) | (show _ < (18 : Int); omega) | (show _ < (100 : Int); omega) | (show _ < (20 : Int); omega) | (show _ < (13 : Int); omega) | (show _ < (3612 : Int); omega)) ?_
    | refine v_ast9 rfl rfl (by decide) (by refine ⟨?_, ?_⟩ <;> first | omega | (show _ < (300 : Int); omega) | (show _ < (1216 : Int); omega) | (show _ < (1600 : Int); omega) | (show _ < (301 : Int); omega) | (show _ < (18 : Int); omega) | (show _ < (100 : Int); omega) | (show _ < (20 : Int); omega) | (show _ < (13 : Int); omega) | (show _ < (3612 : Int); omega)) ?_
    | refine v_puti rfl rfl rfl ?_
    | refine v_len rfl ⟨Nat.le_of_ble_eq_true rfl, Nat.le_of_ble_eq_true rfl⟩ rfl ?_
    | refine v_getz rfl rfl ?_
    | refine v_getl rfl rfl ?_
    | refine v_dup rfl (Or.inl rfl) ?_
    | refine v_dup rfl (Or.inr rfl) ?_
    | refine v_pop rfl (Or.inl rfl) ?_
    | refine v_callr rfl ⟨Nat.le_of_ble_eq_true rfl, Nat.le_of_ble_eq_true rfl, rfl, Nat.le_of_ble_eq_true rfl, rfl⟩ ?_)
  refine k _ ⟨by rw [u_eq]; simp, by simp; omega, fun i hi => ?_⟩ (fun b j hb => ?_)
  · by_cases e1 : i = T.length
    · subst e1
      simp (disch := decide) only [u_n1, u_eq]
      rw [List.getD_eq_getElem?_getD, List.getElem?_append_right (Nat.le_refl _)]
      simp
    · have hi2 : i < T.length := by simp at hi; omega
      have := hR.2.2 i hi2
      have e2 : ((i : Nat) : Int) ≠ (T.length : Int) := by omega
      have e3 : (T ++ [(so, f, e, r, sg)]).getD i t0 = T.getD i t0 := by rw [List.getD_eq_getElem?_getD, List.getD_eq_getElem?_getD, List.getElem?_append_left hi2]
      rw [e3]
      simp (disch := first | decide | omega) only [u_n1, u_n2]
      exact this
  · simp (disch := omega) only [u_n1]
theorem S_isMark {c : Int} (k : Q (some (0, b2i (isMk c))) M) : v_call L d 80 [(0, c)] M Q := by
  refine v_in ?_
  refine v_load rfl rfl ⟨rfl, Nat.le_of_ble_eq_true rfl⟩ ?_
  refine v_lsw rfl ?_
  by_cases h : c = 61 ∨ c = 40 ∨ c = 41 ∨ c = 123 ∨ c = 125 ∨ c = 59 ∨ c = 44 ∨ c = 43 ∨ c = 45 ∨ c = 42 ∨ c = 47
  · have hm : b2i (isMk c) = 1 := by simp only [b2i, isMk, decide_eq_true h, if_true]
    rw [hm] at k
    rcases h with rfl | rfl | rfl | rfl | rfl | rfl | rfl | rfl | rfl | rfl | rfl <;> exact v_push (n := 101) rfl (v_ret rfl rfl k)
  · have hm : b2i (isMk c) = 0 := by simp only [b2i, isMk, decide_eq_false h]; rfl
    rw [hm] at k
    simp only [z_sw]
    repeat rw [if_neg (by omega)]
    exact v_push (n := 103) rfl (v_ret rfl rfl k)
end TO
