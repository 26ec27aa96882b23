/-! ACTS that can be undone, done again: both sides -/
/-- the class's: texts ahead, the text, texts that were undone (the next one first) -/
def HA (Pa : List (List Int)) (t : List Int) (Fu : List (List Int)) (M : zM) : Prop := ∃ H, HV M H (Pa.length : Int) ((Pa.length + Fu.length : Nat) : Int) ∧ (∀ i, i < Pa.length → H.getD i [] = Pa.getD i []) ∧ H.getD Pa.length [] = t ∧ ∀ i, i < Fu.length → H.getD (Pa.length + 1 + i) [] = Fu.getD i []
/-- texts ahead behind an act -/
def paA (Pa : List (List Int)) (t : List Int) : List (List Int) := (if Pa.length = 12 then Pa.drop 1 else Pa) ++ [t]
theorem HV_nl {M M' : zM} {H : List (List Int)} {now last now' last' : Int} (h : HV M H now last) (e1 : M' 8 1 = now') (e2 : M' 8 2 = last') (ho : ∀ b j, b ≠ 8 → M' b j = M b j) (hr : 0 ≤ now' ∧ now' ≤ last' ∧ last' ≤ 12) : HV M' H now' last' := by
  obtain ⟨-, -, -, -, -, h6, h7, h8, h9, h10⟩ := h
  refine ⟨e1, e2, hr.1, hr.2.1, hr.2.2, h6, fun i hi => by rw [ho 9 _ (by decide)]; exact h7 i hi, fun i j hi hj => by rw [ho 9 _ (by decide), ho 9 _ (by decide)]; exact h8 i j hi hj, fun i hi => ?_, h10⟩
  rw [ho 9 _ (by decide)]
  have := h7 i hi
  unfold z_isH at this
  exact BV_oR (lo := 8) (hi := 8) (h9 i hi) (fun b j hb => ho b j (by omega)) (by omega)
theorem HA_oR {Pa Fu : List (List Int)} {t : List Int} {M M' : zM} {lo hi : Int} (h : HA Pa t Fu M) (ho : z_oR lo hi M M') (hx : 35 < lo ∨ hi < 8) : HA Pa t Fu M' := by
  obtain ⟨H, h1, h2⟩ := h
  exact ⟨H, HV_oR h1 ho hx, h2⟩
section HI2
variable {L d : Nat} {M : zM} {Q : Option zV → zM → Prop} {Pa Fu : List (List Int)} {t t' : List Int}
theorem S_hadd (hA : HA Pa t Fu M) (hV : BV M 2 t' 0) (hby : z_by t') (k : ∀ M', HA (paA Pa t) t' [] M' → z_oR 8 35 M M' → Q none M') : v_call L (d + 3) 15 [(2, 8), (2, 2)] M Q := by
  obtain ⟨H, hH, a1, a2, a3⟩ := hA
  have h1 := hH.1
  have hl5 := hH.2.2.2.2.1
  have hl6 := hH.2.2.2.2.2.1
  -- from the number of the last one on
  have fin : ∀ (M1 : zM) (H1 : List (List Int)) (now : Int), HV M1 H1 now (M1 8 2) → M1 8 1 = now → z_oR 8 35 M M1 → BV M1 2 t' 0 → (∀ M', HV M' (H1.set now.toNat t') now now → z_oR 8 35 M M' → Q none M') → v_wp L (d + 3) 15 26 [(2, 8), (2, 2)] [] M1 Q := by
    intro M1 H1 now hv1 e1 o1 v1 kk
    have hr : 0 ≤ now ∧ now ≤ 12 := ⟨hv1.2.2.1, Int.le_trans hv1.2.2.2.1 hv1.2.2.2.2.1⟩
    have hv2 : HV (z_upd M1 8 2 now) H1 now now := HV_nl hv1 (by rw [u_n2 (by decide)]; exact e1) u_eq (fun b j hb => u_n1 hb) ⟨hr.1, Int.le_refl _, hr.2⟩
    have hB : z_isB (z_upd M1 8 2 now 9 now) := by
      have := hv2.2.2.2.2.2.2.1 now.toNat (by omega)
      rw [show ((now.toNat : Nat) : Int) = now by omega] at this
      exact z_H_B this
    have hBH := hv2.2.2.2.2.2.2.1 now.toNat (by omega)
    rw [show ((now.toNat : Nat) : Int) = now by omega] at hBH
    unfold z_isH at hBH
    have v2 : BV (z_upd M1 8 2 now) 2 t' 0 := BV_oR (lo := 8) (hi := 8) v1 (z_oR_u (by decide)) (by decide)
    refine v_load rfl rfl ⟨rfl, Nat.le_of_ble_eq_true rfl⟩ ?_
    refine v_load rfl rfl ⟨rfl, Nat.le_of_ble_eq_true rfl⟩ ?_
    refine v_getx rfl rfl (e1) ?_
    refine v_puti rfl rfl rfl ?_
    refine v_load rfl rfl ⟨rfl, Nat.le_of_ble_eq_true rfl⟩ ?_
    refine v_callr rfl ⟨Nat.le_of_ble_eq_true rfl, Nat.le_of_ble_eq_true rfl, rfl, Nat.le_of_ble_eq_true rfl, rfl⟩ ?_
    refine S_current hv2 ?_
    refine v_load rfl rfl ⟨rfl, Nat.le_of_ble_eq_true rfl⟩ ?_
    refine v_callr rfl ⟨Nat.le_of_ble_eq_true rfl, Nat.le_of_ble_eq_true rfl, z_rB hB, Nat.le_of_ble_eq_true rfl, rfl⟩ ?_
    refine S_become hB z_B2 (by omega) v2 hby (fun M3 b3 o3 => ?_)
    refine v_ret rfl rfl ?_
    refine kk M3 (HV_set hv2 hby b3 o3) (z_oR_tr (z_oR_tr o1 (z_oR_u (by decide))) (fun b j hb => o3 b j (by omega) (by omega)))
  by_cases c : (Pa.length : Int) < 12
  · refine v_in ?_
    refine v_load rfl rfl ⟨rfl, Nat.le_of_ble_eq_true rfl⟩ ?_
    refine v_getx rfl rfl (h1) ?_
    refine v_push rfl ?_
    refine v_ilt rfl (fun _ => ?_) (fun h => absurd h (by omega))
    refine v_load rfl rfl ⟨rfl, Nat.le_of_ble_eq_true rfl⟩ ?_
    refine v_dup rfl (Or.inr rfl) ?_
    refine v_getx rfl rfl (h1) ?_
    refine v_push rfl ?_
    refine v_add rfl (by omega) ?_
    refine v_puti rfl rfl rfl ?_
    have e : paA Pa t = Pa ++ [t] := by unfold paA; rw [if_neg (by omega)]
    -- the number of the last one may be less than that of the new one for a moment
    refine v_load rfl rfl ⟨rfl, Nat.le_of_ble_eq_true rfl⟩ ?_
    refine v_load rfl rfl ⟨rfl, Nat.le_of_ble_eq_true rfl⟩ ?_
    refine v_getx (x := (Pa.length : Int) + 1) rfl rfl u_eq ?_
    refine v_puti rfl rfl rfl ?_
    have hv2 : HV (z_upd (z_upd M 8 1 ((Pa.length : Int) + 1)) 8 2 ((Pa.length : Int) + 1)) H ((Pa.length : Int) + 1) ((Pa.length : Int) + 1) := HV_nl hH (by rw [u_n2 (by decide), u_eq]) u_eq (fun b j hb => by rw [u_n1 hb, u_n1 hb]) ⟨by omega, Int.le_refl _, by omega⟩
    have hBH := hv2.2.2.2.2.2.2.1 (Pa.length + 1) (by omega)
    rw [show ((Pa.length + 1 : Nat) : Int) = (Pa.length : Int) + 1 by omega] at hBH
    have hB := z_H_B hBH
    unfold z_isH at hBH
    have v2 : BV (z_upd (z_upd M 8 1 ((Pa.length : Int) + 1)) 8 2 ((Pa.length : Int) + 1)) 2 t' 0 := BV_oR (lo := 8) (hi := 8) hV (z_oR_tr (z_oR_u (by decide)) (z_oR_u (by decide))) (by decide)
    refine v_load rfl rfl ⟨rfl, Nat.le_of_ble_eq_true rfl⟩ ?_
    refine v_callr rfl ⟨Nat.le_of_ble_eq_true rfl, Nat.le_of_ble_eq_true rfl, rfl, Nat.le_of_ble_eq_true rfl, rfl⟩ ?_
    refine S_current hv2 ?_
    refine v_load rfl rfl ⟨rfl, Nat.le_of_ble_eq_true rfl⟩ ?_
    refine v_callr rfl ⟨Nat.le_of_ble_eq_true rfl, Nat.le_of_ble_eq_true rfl, z_rB hB, Nat.le_of_ble_eq_true rfl, rfl⟩ ?_
    refine S_become hB z_B2 (by omega) v2 hby (fun M3 b3 o3 => ?_)
    refine v_ret rfl rfl ?_
    have hv3 := HV_set hv2 hby b3 o3
    rw [show ((Pa.length : Int) + 1).toNat = Pa.length + 1 by omega] at hv3
    refine k M3 ⟨H.set (Pa.length + 1) t', ?_, fun i hi => ?_, ?_, fun i hi => absurd hi (Nat.not_lt_zero _)⟩ (z_oR_tr (z_oR_tr (z_oR_u (by decide)) (z_oR_u (by decide))) (fun b j hb => o3 b j (by omega) (by omega)))
    · rw [e]
      simpa using hv3
    · rw [e] at hi ⊢
      have hi' : i < Pa.length + 1 := by simpa using hi
      rw [List.getD_eq_getElem?_getD, List.getElem?_set_ne (by omega), ← List.getD_eq_getElem?_getD]
      by_cases ei : i < Pa.length
      · rw [a1 i ei, List.getD_eq_getElem?_getD, List.getD_eq_getElem?_getD, List.getElem?_append_left ei]
      · rw [show i = Pa.length by omega, a2]
        simp
    · rw [e]
      have : (Pa ++ [t]).length = Pa.length + 1 := by simp
      rw [this, List.getD_eq_getElem?_getD, List.getElem?_set_self (by omega)]
      rfl
  · have h12 : Pa.length = 12 := by have := hH.2.2.2.1; omega
    have e : paA Pa t = Pa.drop 1 ++ [t] := by unfold paA; rw [if_pos h12]
    refine v_in ?_
    refine v_load rfl rfl ⟨rfl, Nat.le_of_ble_eq_true rfl⟩ ?_
    refine v_getx rfl rfl (h1) ?_
    refine v_push rfl ?_
    refine v_ilt rfl (fun h => absurd h (by omega)) (fun _ => ?_)
    refine v_load rfl rfl ⟨rfl, Nat.le_of_ble_eq_true rfl⟩ ?_
    refine v_callr rfl ⟨Nat.le_of_ble_eq_true rfl, Nat.le_of_ble_eq_true rfl, rfl, Nat.le_of_ble_eq_true rfl, rfl⟩ ?_
    refine S_forget hH (fun M1 hv1 o1 => ?_)
    refine v_goto rfl ?_
    have hl0 : Fu.length = 0 := by omega
    refine fin M1 _ (Pa.length : Int) (by rw [hv1.2.1]; exact hv1) hv1.1 (z_oR_w o1 (by decide) (by decide)) (BV_oR hV o1 (by decide)) (fun M3 hv3 o3 => ?_)
    refine k M3 ⟨(H.drop 1 ++ [H.getD 0 []]).set ((Pa.length : Int)).toNat t', ?_, fun i hi => ?_, ?_, fun i hi => absurd hi (Nat.not_lt_zero _)⟩ o3
    · rw [e]
      have el : (Pa.drop 1 ++ [t]).length = Pa.length := by simp; omega
      rw [el]
      exact hv3
    · rw [e] at hi ⊢
      have hi' : i < 12 := by simp at hi; omega
      rw [Int.toNat_natCast, h12, List.getD_eq_getElem?_getD, List.getElem?_set_ne (by omega), List.getElem?_append_left (by simp; omega), List.getElem?_drop, ← List.getD_eq_getElem?_getD]
      by_cases ei : i = 11
      · subst ei
        rw [show 1 + 11 = Pa.length by omega, a2, List.getD_eq_getElem?_getD, List.getElem?_append_right (by simp; omega)]
        simp [h12]
      · rw [a1 (1 + i) (by omega), List.getD_eq_getElem?_getD, List.getD_eq_getElem?_getD, List.getElem?_append_left (by simp; omega), List.getElem?_drop]
    · rw [e]
      have el : (Pa.drop 1 ++ [t]).length = Pa.length := by simp; omega
      rw [el, Int.toNat_natCast, List.getD_eq_getElem?_getD, List.getElem?_set_self (by simp; omega)]
      rfl
end HI2
