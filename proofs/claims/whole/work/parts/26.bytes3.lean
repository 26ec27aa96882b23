/-! BYTES, the rest -/
def z_by (l : List Int) : Prop := ∀ x ∈ l, 0 ≤ x ∧ x < 256
theorem b_app_ok : ∀ (xs l : List Int) (s : Int), z_by xs → l.length + xs.length ≤ 300 → b_app (l, s) xs = (l ++ xs, s)
  | [], l, s, _, _ => by simp [b_app]
  | x :: xs, l, s, hb, hl => by
    rw [b_app_cons]
    have hx := hb x List.mem_cons_self
    have e : b_push (l, s) x = (l ++ [x], s) := by
      unfold b_push
      simp only [List.length_cons] at hl
      rw [if_pos (by show l.length < 300; omega), show x % 256 = x by omega]
    rw [e, b_app_ok xs (l ++ [x]) s (fun y hy => hb y (List.mem_cons_of_mem _ hy)) (by simp at hl ⊢; omega)]
    simp
theorem b_app_1 : ∀ (xs l : List Int), (b_app (l, 1) xs).2 = 1
  | [], _ => rfl
  | x :: xs, l => by
    rw [b_app_cons]
    unfold b_push
    split <;> exact b_app_1 xs _
theorem b_app_over : ∀ (xs l : List Int) (s : Int), 300 < l.length + xs.length → l.length ≤ 300 → (b_app (l, s) xs).2 = 1
  | [], l, s, h, h2 => by simp at h; omega
  | x :: xs, l, s, h, h2 => by
    rw [b_app_cons]
    unfold b_push
    split
    · rename_i h3
      have h3 : l.length < 300 := h3
      exact b_app_over xs _ _ (by simp at h ⊢; omega) (by simp; omega)
    · exact b_app_1 xs _
theorem b_app_len : ∀ (xs l : List Int) (s : Int), l.length ≤ 300 → (b_app (l, s) xs).1.length ≤ 300
  | [], l, s, h => h
  | x :: xs, l, s, h => by
    rw [b_app_cons]
    unfold b_push
    split
    · rename_i h3
      have h3 : l.length < 300 := h3
      exact b_app_len xs _ _ (by simp; omega)
    · exact b_app_len xs _ _ h
theorem b_app_app (v : List Int × Int) (xs ys : List Int) : b_app v (xs ++ ys) = b_app (b_app v xs) ys := List.foldl_append
section BY
variable {L d : Nat} {M : zM} {Q : Option zV → zM → Prop} {a o : Int} {l lo : List Int} {s so : Int}
theorem S_become (hB : z_isB a) (hO : z_isB o) (hao : o ≠ a) (hW : BV M o lo so) (hby : z_by lo) (k : ∀ M', BV M' a lo 0 → z_o2 a M M' → Q none M') : v_call L (d + 2) 8 [(2, a), (2, o)] M Q := by
  have hl := hW.2.1
  refine v_in ?_
  refine v_load rfl rfl ⟨rfl, Nat.le_of_ble_eq_true rfl⟩ ?_
  refine v_callr rfl ⟨Nat.le_of_ble_eq_true rfl, Nat.le_of_ble_eq_true rfl, z_rB hB, Nat.le_of_ble_eq_true rfl, rfl⟩ ?_
  refine S_clear hB (fun M1 hV1 ho1 => ?_)
  have hW1 := BV_kept hW ho1 hB hO hao
  refine v_load rfl rfl ⟨rfl, Nat.le_of_ble_eq_true rfl⟩ ?_
  refine v_load rfl rfl ⟨rfl, Nat.le_of_ble_eq_true rfl⟩ ?_
  refine v_push rfl ?_
  refine v_load rfl rfl ⟨rfl, Nat.le_of_ble_eq_true rfl⟩ ?_
  refine v_callr rfl ⟨Nat.le_of_ble_eq_true rfl, Nat.le_of_ble_eq_true rfl, z_rB hO, Nat.le_of_ble_eq_true rfl, rfl⟩ ?_
  refine S_sizeT hO hW1 ?_
  refine v_callr rfl ⟨Nat.le_of_ble_eq_true rfl, Nat.le_of_ble_eq_true rfl, z_rB hB, Nat.le_of_ble_eq_true rfl, rfl⟩ ?_
  refine S_addFrom hB hO hao (by decide) ⟨by omega, by omega⟩ hV1 hW1 (fun M2 hV2 ho2 => ?_)
  refine v_ret rfl rfl ?_
  have e : ((lo.take ((lo.length : Nat) : Int).toNat).drop (0 : Int).toNat) = lo := by simp
  rw [e, b_app_ok lo [] 0 hby (by simp; exact hl)] at hV2
  exact k M2 (by simpa using hV2) (z_o2_tr ho1 ho2)
/-- four bytes, the highest first -/
def z_four (x : Int) : List Int := [x % 4294967296 / 16777216, x % 4294967296 / 65536 % 256, x % 4294967296 / 256 % 256, x % 256]
theorem S_addFour {x : Int} (hB : z_isB a) (hV : BV M a l s) (k : ∀ M', BV M' a (b_app (l, s) (z_four x)).1 (b_app (l, s) (z_four x)).2 → z_o2 a M M' → Q none M') : v_call L (d + 1) 6 [(2, a), (0, x)] M Q := by
  refine v_in ?_
  refine v_load rfl rfl ⟨rfl, Nat.le_of_ble_eq_true rfl⟩ ?_
  refine v_load rfl rfl ⟨rfl, Nat.le_of_ble_eq_true rfl⟩ ?_
  refine v_push rfl ?_
  refine v_alu rfl rfl ?_
  refine v_callr rfl ⟨Nat.le_of_ble_eq_true rfl, Nat.le_of_ble_eq_true rfl, z_rB hB, Nat.le_of_ble_eq_true rfl, rfl⟩ ?_
  refine S_add hB hV (fun M1 hV1 ho1 => ?_)
  refine v_load rfl rfl ⟨rfl, Nat.le_of_ble_eq_true rfl⟩ ?_
  refine v_load rfl rfl ⟨rfl, Nat.le_of_ble_eq_true rfl⟩ ?_
  refine v_push rfl ?_
  refine v_alu rfl rfl ?_
  refine v_callr rfl ⟨Nat.le_of_ble_eq_true rfl, Nat.le_of_ble_eq_true rfl, z_rB hB, Nat.le_of_ble_eq_true rfl, rfl⟩ ?_
  refine S_add hB hV1 (fun M2 hV2 ho2 => ?_)
  refine v_load rfl rfl ⟨rfl, Nat.le_of_ble_eq_true rfl⟩ ?_
  refine v_load rfl rfl ⟨rfl, Nat.le_of_ble_eq_true rfl⟩ ?_
  refine v_push rfl ?_
  refine v_alu rfl rfl ?_
  refine v_callr rfl ⟨Nat.le_of_ble_eq_true rfl, Nat.le_of_ble_eq_true rfl, z_rB hB, Nat.le_of_ble_eq_true rfl, rfl⟩ ?_
  refine S_add hB hV2 (fun M3 hV3 ho3 => ?_)
  refine v_load rfl rfl ⟨rfl, Nat.le_of_ble_eq_true rfl⟩ ?_
  refine v_load rfl rfl ⟨rfl, Nat.le_of_ble_eq_true rfl⟩ ?_
  refine v_callr rfl ⟨Nat.le_of_ble_eq_true rfl, Nat.le_of_ble_eq_true rfl, z_rB hB, Nat.le_of_ble_eq_true rfl, rfl⟩ ?_
  refine S_add hB hV3 (fun M4 hV4 ho4 => ?_)
  refine v_ret rfl rfl ?_
  have e : b_app (l, s) (z_four x) = b_push (b_push (b_push (b_push (l, s) (x % 4294967296 / 16777216)) (x % 4294967296 / 65536)) (x % 4294967296 / 256)) x := by
    have hp : ∀ (v : List Int × Int) (y : Int), b_push v (y % 256) = b_push v y := by
      intro v y
      unfold b_push
      rw [Int.emod_emod_of_dvd y (Int.dvd_refl 256)]
    unfold z_four
    simp only [b_app, List.foldl]
    rw [hp, hp, hp]
  rw [e] at k
  exact k M4 hV4 (z_o2_tr ho1 (z_o2_tr ho2 (z_o2_tr ho3 ho4)))
theorem S_lineOf_loop {i : Int} (hB : z_isB a) (hV : BV M a l s) : ∀ (n : Nat) (j : Nat), n = l.length - j → (j : Int) ≤ i → j ≤ l.length → i ≤ (l.length : Int) → Q (some (0, nlF l i.toNat)) M → v_wp L (d + 1) 9 4 [(2, a), (0, i), (0, nlF l j), (0, (j : Int))] [] M Q := by
  obtain ⟨h0, h1, p0, p1, p2, hp⟩ := z_B (L := L) hB
  have hk : ((z_sC L a).1 : Int) = 0 := by rw [h0]; rfl
  have v1 := hV.1
  have v2 := hV.2.1
  intro n
  induction n with
  | zero =>
    intro j hn hj hj2 hi k
    have e : i.toNat = j := by omega
    rw [e] at k
    refine v_load rfl rfl ⟨rfl, Nat.le_of_ble_eq_true rfl⟩ ?_
    refine v_load rfl rfl ⟨rfl, Nat.le_of_ble_eq_true rfl⟩ ?_
    refine v_ige rfl (fun _ => ?_) (fun h => absurd h (by omega))
    refine v_load rfl rfl ⟨rfl, Nat.le_of_ble_eq_true rfl⟩ ?_
    exact v_ret rfl rfl k
  | succ n ih =>
    intro j hn hj hj2 hi k
    have hnn := nlF_nn l j
    refine v_load rfl rfl ⟨rfl, Nat.le_of_ble_eq_true rfl⟩ ?_
    refine v_load rfl rfl ⟨rfl, Nat.le_of_ble_eq_true rfl⟩ ?_
    refine v_ige rfl (fun hge => ?_) (fun hlt => ?_)
    · have e : i.toNat = j := by omega
      rw [e] at k
      refine v_load rfl rfl ⟨rfl, Nat.le_of_ble_eq_true rfl⟩ ?_
      exact v_ret rfl rfl k
    · refine v_load rfl rfl ⟨rfl, Nat.le_of_ble_eq_true rfl⟩ ?_
      refine v_load rfl rfl ⟨rfl, Nat.le_of_ble_eq_true rfl⟩ ?_
      refine v_geti rfl hk ?_
      refine v_ige rfl (fun h => absurd h (by omega)) (fun _ => ?_)
      refine v_load rfl rfl ⟨rfl, Nat.le_of_ble_eq_true rfl⟩ ?_
      refine v_load rfl rfl ⟨rfl, Nat.le_of_ble_eq_true rfl⟩ ?_
      refine v_callr rfl ⟨Nat.le_of_ble_eq_true rfl, Nat.le_of_ble_eq_true rfl, z_rB hB, Nat.le_of_ble_eq_true rfl, rfl⟩ ?_
      refine S_atT hB hV ?_
      refine v_push rfl ?_
      refine v_ine rfl (fun h => ?_) (fun h => ?_)
      · refine v_iinc rfl rfl rfl (by omega) rfl ?_
        refine v_goto rfl ?_
        have e : nlF l j = nlF l (j + 1) := by
          show nlF l j = nlF l j + (if tb l (j : Int) = 10 then 1 else 0)
          rw [if_neg h]; omega
        rw [e]
        exact ih (j + 1) (by omega) (by omega) (by omega) hi k
      · refine v_iinc rfl rfl rfl (by omega) rfl ?_
        refine v_iinc rfl rfl rfl (by omega) rfl ?_
        refine v_goto rfl ?_
        have e : nlF l j + 1 = nlF l (j + 1) := by
          show nlF l j + 1 = nlF l j + (if tb l (j : Int) = 10 then 1 else 0)
          rw [if_pos h]
        rw [e]
        exact ih (j + 1) (by omega) (by omega) (by omega) hi k
theorem S_lineOf {i : Int} (hB : z_isB a) (hV : BV M a l s) (hi : 0 ≤ i ∧ i ≤ (l.length : Int)) (k : Q (some (0, nlF l i.toNat)) M) : v_call L (d + 1) 9 [(2, a), (0, i)] M Q := by
  refine v_in ?_
  refine v_push rfl ?_
  refine v_store rfl ⟨rfl, Nat.le_of_ble_eq_true rfl, Nat.le_of_ble_eq_true rfl, rfl⟩ rfl ?_
  refine v_push rfl ?_
  refine v_store rfl ⟨rfl, Nat.le_of_ble_eq_true rfl, Nat.le_of_ble_eq_true rfl, rfl⟩ rfl ?_
  exact S_lineOf_loop hB hV _ 0 rfl hi.1 (Nat.zero_le _) hi.2 k
end BY
