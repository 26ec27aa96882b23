/-! ACTS: states as one thing; feed, load -/
abbrev zA : Type := (List Int × List Int) × (List (List Int) × List (List Int)) × ((Nat → Int) × (Nat → Bool) × (Int → Int)) × (Int × Int)
def CS (s : zA) (M : zM) : Prop := CI s.1.1 s.1.2 s.2.1.1 s.2.1.2 s.2.2.1.1 s.2.2.1.2.1 s.2.2.1.2.2 s.2.2.2.1 s.2.2.2.2 M
def RS (s : zA) (M : zM) : Prop := RJ s.1.1 s.1.2 s.2.1.1 s.2.1.2 s.2.2.1.1 s.2.2.1.2.1 s.2.2.1.2.2 s.2.2.2.1 s.2.2.2.2 M
def BS (s : zA) (n : Nat) : Prop := SB s.1.1 s.1.2 s.2.1.1 s.2.1.2 s.2.2.2.1 s.2.2.2.2 n
/-- behind an EDIT -/
noncomputable def edS (s : zA) (t' : List Int) (a b : Int) : zA := ((t', s.1.2), (paA s.2.1.1 s.1.1, []), (og (toks s.1.1) (toks t') a b ((t'.length : Int) - (s.1.1.length : Int)), kpB (og (toks s.1.1) (toks t') a b ((t'.length : Int) - (s.1.1.length : Int))) (NT (toks s.1.1)) (NT (toks t')), fun so => lsS (og (toks s.1.1) (toks t') a b ((t'.length : Int) - (s.1.1.length : Int))) (NT (toks s.1.1)) (NT (toks t')) so (NT (toks t')).length), (s.2.2.2.1 + kpN s.1.1 t' a b, s.2.2.2.2 + ((NT (toks t')).length : Int)))
/-- another tape -/
def tpS (s : zA) (tp : List Int) : zA := ((s.1.1, tp), s.2)
/-- behind load, undo, redo: another text, nothing is kept -/
noncomputable def newS (s : zA) (t' : List Int) (Pa Fu : List (List Int)) (eK eN : Int) : zA := ((t', s.1.2), (Pa, Fu), (oNo, (fun _ => false), fun so => mnS (NT (toks s.1.1)) so (NT (toks s.1.1)).length), (eK, eN))
theorem CS_tape {s : zA} {M M' : zM} {tp : List Int} {z : Int} (h : CS s M) (ho : z_oR 4 5 M M') (hv : BV M' 4 tp z) : CS (tpS s tp) M' := by
  obtain ⟨h1, -, ⟨l, s', h3⟩, h4, h5, h6, h7, h8, h9⟩ := h
  exact ⟨BV_oR h1 ho (by decide), ⟨z, hv⟩, ⟨l, s', BV_oR h3 ho (by decide)⟩, HA_oR h4 ho (by decide), RT_oR h5 ho (by decide), TN_oR h6 ho (by decide), KPC_oR h7 ho (by decide), by rw [ho 1 9 (by decide)]; exact h8, by rw [ho 1 10 (by decide)]; exact h9⟩
theorem CS_draft {s : zA} {M M' : zM} {l : List Int} {z : Int} (h : CS s M) (ho : z_oR 6 7 M M') (hv : BV M' 6 l z) : CS s M' := by
  obtain ⟨h1, ⟨s4, h2⟩, -, h4, h5, h6, h7, h8, h9⟩ := h
  exact ⟨BV_oR h1 ho (by decide), ⟨s4, BV_oR h2 ho (by decide)⟩, ⟨l, z, hv⟩, HA_oR h4 ho (by decide), RT_oR h5 ho (by decide), TN_oR h6 ho (by decide), KPC_oR h7 ho (by decide), by rw [ho 1 9 (by decide)]; exact h8, by rw [ho 1 10 (by decide)]; exact h9⟩
theorem z_B4 : z_isB 4 := by unfold z_isB; decide
theorem z_B6 : z_isB 6 := by unfold z_isB; decide
/-- the draft: what came since it was cleared -/
def DRF (xs : List Int) (M : zM) : Prop := BV M 6 (b_app ([], 0) xs).1 (b_app ([], 0) xs).2
theorem DRF_fit {xs : List Int} {M : zM} (h : DRF xs M) (hb : z_by xs) (hl : xs.length ≤ 300) : BV M 6 xs 0 := by
  unfold DRF at h
  rw [b_app_ok xs [] 0 hb (by simpa using hl)] at h
  exact h
theorem DRF_sp {xs : List Int} {M : zM} (hb : z_by xs) : (b_app ([], 0) xs).2 = if (xs.length : Int) ≤ 300 then 0 else 1 := by
  by_cases c : (xs.length : Int) ≤ 300
  · rw [if_pos c, b_app_ok xs [] 0 hb (by simp; omega)]
  · rw [if_neg c]; exact b_app_over xs [] 0 (by simp; omega) (by simp)
theorem z_by_app {a b : List Int} (h1 : z_by a) (h2 : z_by b) : z_by (a ++ b) := fun x hx => by
  rcases List.mem_append.mp hx with h | h
  · exact h1 x h
  · exact h2 x h
theorem z_by_sub {t : List Int} {a b : Int} (h : z_by t) : z_by (sub t a b) := fun x hx => h x (List.mem_of_mem_take (List.mem_of_mem_drop hx))
theorem z_by_take {t : List Int} {n : Nat} (h : z_by t) : z_by (t.take n) := fun x hx => h x (List.mem_of_mem_take hx)
theorem z_by_drop {t : List Int} {n : Nat} (h : z_by t) : z_by (t.drop n) := fun x hx => h x (List.mem_of_mem_drop hx)
theorem sub_0 (t : List Int) (a : Int) : sub t 0 a = t.take a.toNat := rfl
theorem sub_end (t : List Int) (b : Int) : sub t b (t.length : Int) = t.drop b.toNat := by
  unfold sub
  rw [Int.toNat_natCast, List.take_length]
section A1
variable {L d n : Nat} {M : zM} {Q : Option zV → zM → Prop} {s : zA} {xs lo : List Int} {z : Int}
theorem S_dClear (k : ∀ M', DRF [] M' → z_oR 6 7 M M' → Q none M') : v_call L d 4 [(2, 6)] M Q :=
  S_clear z_B6 (fun M' h o => k M' h (fun b j hb => o b j (by omega) (by omega)))
theorem S_dFrom {o fr up : Int} (hD : DRF xs M) (ho : o = 2 ∨ o = 4) (hW : BV M o lo z) (hfr : 0 ≤ fr) (hup : 0 ≤ up ∧ up ≤ (lo.length : Int)) (k : ∀ M', DRF (xs ++ sub lo fr up) M' → z_oR 6 7 M M' → Q none M') : v_call L (d + 1) 7 [(2, 6), (2, o), (0, fr), (0, up)] M Q := by
  have hO : z_isB o := by rcases ho with rfl | rfl; exact z_B2; exact z_B4
  refine S_addFrom z_B6 hO (by omega) hfr hup hD hW (fun M' h o => k M' ?_ (fun b j hb => o b j (by omega) (by omega)))
  unfold DRF
  rw [b_app_app]
  exact h
theorem S_dAdd {x : Int} (hD : DRF xs M) (k : ∀ M', DRF (xs ++ [x]) M' → z_oR 6 7 M M' → Q none M') : v_call L d 5 [(2, 6), (0, x)] M Q := by
  refine S_add z_B6 hD (fun M' h o => k M' ?_ (fun b j hb => o b j (by omega) (by omega)))
  unfold DRF
  rw [b_app_app]
  exact h
theorem S_dSpill (hD : DRF xs M) (hb : z_by xs) (k : Q (some (0, if (xs.length : Int) ≤ 300 then 0 else 1)) M) : v_call L d 3 [(2, 6)] M Q := by
  have e := DRF_sp (M := M) hb
  have h4 := hD.2.2.2.1
  have h5 := hD.2.2.2.2
  refine S_isSpilled z_B6 (by rw [h4]; exact h5) ?_
  rw [h4, e]
  exact k
theorem by_four (x : Int) : z_by (z_four x) := by
  intro y hy
  simp only [z_four, List.mem_cons, List.not_mem_nil, or_false] at hy
  rcases hy with rfl | rfl | rfl | rfl <;> omega
/-- feed -/
def feedS (s : zA) (a b c d e : Int) : zA × Int := if (s.1.2.length : Int) + 20 ≤ 300 then (tpS s (s.1.2 ++ (z_four a ++ z_four b ++ z_four c ++ z_four d ++ z_four e)), (s.1.2.length : Int) + 20) else (s, -1)
theorem b_app_four {l : List Int} {z x : Int} (h : l.length + 4 ≤ 300) : b_app (l, z) (z_four x) = (l ++ z_four x, z) := b_app_ok _ _ _ (by_four x) h
theorem S_feed {a b c dd e : Int} (hC : CS s M) (k : ∀ M', CS (feedS s a b c dd e).1 M' → z_oR 1 76 M M' → Q (some (0, (feedS s a b c dd e).2)) M') : v_call L (d + 2) 120 [(2, 1), (0, a), (0, b), (0, c), (0, dd), (0, e)] M Q := by
  obtain ⟨z, hV⟩ := hC.2.1
  have hl := hV.2.1
  have l4 : ∀ x, (z_four x).length = 4 := fun x => rfl
  refine v_in ?_
  by_cases hc : (s.1.2.length : Int) + 20 ≤ 300
  · have ef : feedS s a b c dd e = (tpS s (s.1.2 ++ (z_four a ++ z_four b ++ z_four c ++ z_four dd ++ z_four e)), (s.1.2.length : Int) + 20) := by unfold feedS; rw [if_pos hc]
    rw [ef] at k
    refine v_load rfl rfl ⟨rfl, Nat.le_of_ble_eq_true rfl⟩ ?_
    refine v_getp rfl rfl rfl ?_
    refine v_callr rfl ⟨Nat.le_of_ble_eq_true rfl, Nat.le_of_ble_eq_true rfl, rfl, Nat.le_of_ble_eq_true rfl, rfl⟩ ?_
    refine S_sizeT z_B4 hV ?_
    refine v_push rfl ?_
    refine v_add rfl (by omega) ?_
    refine v_push rfl ?_
    refine v_ile rfl (fun _ => ?_) (fun h => absurd h (by omega))
    refine v_load rfl rfl ⟨rfl, Nat.le_of_ble_eq_true rfl⟩ ?_
    refine v_getp rfl rfl rfl ?_
    refine v_load rfl rfl ⟨rfl, Nat.le_of_ble_eq_true rfl⟩ ?_
    refine v_callr rfl ⟨Nat.le_of_ble_eq_true rfl, Nat.le_of_ble_eq_true rfl, rfl, Nat.le_of_ble_eq_true rfl, rfl⟩ ?_
    refine S_addFour z_B4 hV (fun M1 v1 o1 => ?_)
    rw [b_app_four (by omega)] at v1
    refine v_load rfl rfl ⟨rfl, Nat.le_of_ble_eq_true rfl⟩ ?_
    refine v_getp rfl rfl rfl ?_
    refine v_load rfl rfl ⟨rfl, Nat.le_of_ble_eq_true rfl⟩ ?_
    refine v_callr rfl ⟨Nat.le_of_ble_eq_true rfl, Nat.le_of_ble_eq_true rfl, rfl, Nat.le_of_ble_eq_true rfl, rfl⟩ ?_
    refine S_addFour z_B4 v1 (fun M2 v2 o2 => ?_)
    rw [b_app_four (by simp [l4]; omega)] at v2
    refine v_load rfl rfl ⟨rfl, Nat.le_of_ble_eq_true rfl⟩ ?_
    refine v_getp rfl rfl rfl ?_
    refine v_load rfl rfl ⟨rfl, Nat.le_of_ble_eq_true rfl⟩ ?_
    refine v_callr rfl ⟨Nat.le_of_ble_eq_true rfl, Nat.le_of_ble_eq_true rfl, rfl, Nat.le_of_ble_eq_true rfl, rfl⟩ ?_
    refine S_addFour z_B4 v2 (fun M3 v3 o3 => ?_)
    rw [b_app_four (by simp [l4]; omega)] at v3
    refine v_load rfl rfl ⟨rfl, Nat.le_of_ble_eq_true rfl⟩ ?_
    refine v_getp rfl rfl rfl ?_
    refine v_load rfl rfl ⟨rfl, Nat.le_of_ble_eq_true rfl⟩ ?_
    refine v_callr rfl ⟨Nat.le_of_ble_eq_true rfl, Nat.le_of_ble_eq_true rfl, rfl, Nat.le_of_ble_eq_true rfl, rfl⟩ ?_
    refine S_addFour z_B4 v3 (fun M4 v4 o4 => ?_)
    rw [b_app_four (by simp [l4]; omega)] at v4
    refine v_load rfl rfl ⟨rfl, Nat.le_of_ble_eq_true rfl⟩ ?_
    refine v_getp rfl rfl rfl ?_
    refine v_load rfl rfl ⟨rfl, Nat.le_of_ble_eq_true rfl⟩ ?_
    refine v_callr rfl ⟨Nat.le_of_ble_eq_true rfl, Nat.le_of_ble_eq_true rfl, rfl, Nat.le_of_ble_eq_true rfl, rfl⟩ ?_
    refine S_addFour z_B4 v4 (fun M5 v5 o5 => ?_)
    rw [b_app_four (by simp [l4]; omega)] at v5
    refine v_load rfl rfl ⟨rfl, Nat.le_of_ble_eq_true rfl⟩ ?_
    refine v_getp rfl rfl rfl ?_
    refine v_callr rfl ⟨Nat.le_of_ble_eq_true rfl, Nat.le_of_ble_eq_true rfl, rfl, Nat.le_of_ble_eq_true rfl, rfl⟩ ?_
    refine S_sizeT z_B4 v5 ?_
    refine v_ret rfl rfl ?_
    have oo : z_oR 4 5 M M5 := fun b j hb => by rw [o5 b j (by omega) (by omega), o4 b j (by omega) (by omega), o3 b j (by omega) (by omega), o2 b j (by omega) (by omega), o1 b j (by omega) (by omega)]
    have v5' : BV M5 4 (s.1.2 ++ (z_four a ++ z_four b ++ z_four c ++ z_four dd ++ z_four e)) z := by simpa using v5
    refine qeq (k M5 (CS_tape hC oo v5') (z_oR_w oo (by decide) (by decide))) ?_
    simp [l4]
  · have ef : feedS s a b c dd e = (s, -1) := by unfold feedS; rw [if_neg hc]
    rw [ef] at k
    refine v_load rfl rfl ⟨rfl, Nat.le_of_ble_eq_true rfl⟩ ?_
    refine v_getp rfl rfl rfl ?_
    refine v_callr rfl ⟨Nat.le_of_ble_eq_true rfl, Nat.le_of_ble_eq_true rfl, rfl, Nat.le_of_ble_eq_true rfl, rfl⟩ ?_
    refine S_sizeT z_B4 hV ?_
    refine v_push rfl ?_
    refine v_add rfl (by omega) ?_
    refine v_push rfl ?_
    refine v_ile rfl (fun h => absurd h (by omega)) (fun _ => ?_)
    refine v_push rfl ?_
    refine v_ret rfl rfl ?_
    exact k M hC z_oR_rf
theorem R_four {tp : List Int} {x : Int} (hP : RTp tp M) (hl : tp.length + 4 ≤ 300) (k : ∀ M', RTp (tp ++ z_four x) M' → (∀ b j, b ≠ 78 → (b = 77 → j ≠ 3) → M' b j = M b j) → Q none M') : v_call L d 176 [(2, 77), (0, x)] M Q := by
  obtain ⟨h1, h2, h3⟩ := hP
  have s1 : z_alu 4 x 24 = some (x / 16777216) := rfl
  have s2 : z_alu 4 x 16 = some (x / 65536) := rfl
  have s3 : z_alu 4 x 8 = some (x / 256) := rfl
  have s4 : z_alu 4 x 0 = some x := rfl
  have an : ∀ y, z_alu 3 y 255 = some (y % 256) := fun y => rfl
  refine v_in ?_
  refine v_push rfl ?_
  refine v_store rfl ⟨rfl, Nat.le_of_ble_eq_true rfl, Nat.le_of_ble_eq_true rfl, rfl⟩ rfl ?_
  refine v_load rfl rfl ⟨rfl, Nat.le_of_ble_eq_true rfl⟩ ?_
  refine v_iflt rfl (fun h => absurd h (by decide)) (fun _ => ?_)
  refine v_load rfl rfl ⟨rfl, Nat.le_of_ble_eq_true rfl⟩ ?_
  refine v_getp rfl rfl rfl ?_
  refine v_load rfl rfl ⟨rfl, Nat.le_of_ble_eq_true rfl⟩ ?_
  refine v_getx rfl rfl (h1) ?_
  refine v_load rfl rfl ⟨rfl, Nat.le_of_ble_eq_true rfl⟩ ?_
  refine v_push rfl ?_
  refine v_load rfl rfl ⟨rfl, Nat.le_of_ble_eq_true rfl⟩ ?_
  refine v_mul rfl (by omega) ?_
  refine v_alu rfl s1 ?_
  refine v_push rfl ?_
  refine v_alu rfl (an _) ?_
  refine v_ast9 rfl rfl (by decide) ⟨by omega, by show _ < (300 : Int); omega⟩ ?_
  refine v_load rfl rfl ⟨rfl, Nat.le_of_ble_eq_true rfl⟩ ?_
  refine v_load rfl rfl ⟨rfl, Nat.le_of_ble_eq_true rfl⟩ ?_
  refine v_getx rfl rfl (show _ = (tp.length : Int) by rw [u_n1 (by decide)]; exact h1) ?_
  refine v_push rfl ?_
  refine v_add rfl (by omega) ?_
  refine v_puti rfl rfl rfl ?_
  refine v_iinc rfl rfl rfl (by omega) rfl ?_
  refine v_goto rfl ?_
  refine v_load rfl rfl ⟨rfl, Nat.le_of_ble_eq_true rfl⟩ ?_
  refine v_iflt rfl (fun h => absurd h (by decide)) (fun _ => ?_)
  refine v_load rfl rfl ⟨rfl, Nat.le_of_ble_eq_true rfl⟩ ?_
  refine v_getp rfl rfl rfl ?_
  refine v_load rfl rfl ⟨rfl, Nat.le_of_ble_eq_true rfl⟩ ?_
  refine v_getx rfl rfl (u_eq) ?_
  refine v_load rfl rfl ⟨rfl, Nat.le_of_ble_eq_true rfl⟩ ?_
  refine v_push rfl ?_
  refine v_load rfl rfl ⟨rfl, Nat.le_of_ble_eq_true rfl⟩ ?_
  refine v_mul rfl (by omega) ?_
  refine v_alu rfl s2 ?_
  refine v_push rfl ?_
  refine v_alu rfl (an _) ?_
  refine v_ast9 rfl rfl (by decide) ⟨by omega, by show _ < (300 : Int); omega⟩ ?_
  refine v_load rfl rfl ⟨rfl, Nat.le_of_ble_eq_true rfl⟩ ?_
  refine v_load rfl rfl ⟨rfl, Nat.le_of_ble_eq_true rfl⟩ ?_
  refine v_getx rfl rfl (show _ = (tp.length : Int) + 1 by rw [u_n1 (by decide)]; exact u_eq) ?_
  refine v_push rfl ?_
  refine v_add rfl (by omega) ?_
  refine v_puti rfl rfl rfl ?_
  refine v_iinc rfl rfl rfl (by omega) rfl ?_
  refine v_goto rfl ?_
  refine v_load rfl rfl ⟨rfl, Nat.le_of_ble_eq_true rfl⟩ ?_
  refine v_iflt rfl (fun h => absurd h (by decide)) (fun _ => ?_)
  refine v_load rfl rfl ⟨rfl, Nat.le_of_ble_eq_true rfl⟩ ?_
  refine v_getp rfl rfl rfl ?_
  refine v_load rfl rfl ⟨rfl, Nat.le_of_ble_eq_true rfl⟩ ?_
  refine v_getx rfl rfl (u_eq) ?_
  refine v_load rfl rfl ⟨rfl, Nat.le_of_ble_eq_true rfl⟩ ?_
  refine v_push rfl ?_
  refine v_load rfl rfl ⟨rfl, Nat.le_of_ble_eq_true rfl⟩ ?_
  refine v_mul rfl (by omega) ?_
  refine v_alu rfl s3 ?_
  refine v_push rfl ?_
  refine v_alu rfl (an _) ?_
  refine v_ast9 rfl rfl (by decide) ⟨by omega, by show _ < (300 : Int); omega⟩ ?_
  refine v_load rfl rfl ⟨rfl, Nat.le_of_ble_eq_true rfl⟩ ?_
  refine v_load rfl rfl ⟨rfl, Nat.le_of_ble_eq_true rfl⟩ ?_
  refine v_getx rfl rfl (show _ = (tp.length : Int) + 1 + 1 by rw [u_n1 (by decide)]; exact u_eq) ?_
  refine v_push rfl ?_
  refine v_add rfl (by omega) ?_
  refine v_puti rfl rfl rfl ?_
  refine v_iinc rfl rfl rfl (by omega) rfl ?_
  refine v_goto rfl ?_
  refine v_load rfl rfl ⟨rfl, Nat.le_of_ble_eq_true rfl⟩ ?_
  refine v_iflt rfl (fun h => absurd h (by decide)) (fun _ => ?_)
  refine v_load rfl rfl ⟨rfl, Nat.le_of_ble_eq_true rfl⟩ ?_
  refine v_getp rfl rfl rfl ?_
  refine v_load rfl rfl ⟨rfl, Nat.le_of_ble_eq_true rfl⟩ ?_
  refine v_getx rfl rfl (u_eq) ?_
  refine v_load rfl rfl ⟨rfl, Nat.le_of_ble_eq_true rfl⟩ ?_
  refine v_push rfl ?_
  refine v_load rfl rfl ⟨rfl, Nat.le_of_ble_eq_true rfl⟩ ?_
  refine v_mul rfl (by omega) ?_
  refine v_alu rfl s4 ?_
  refine v_push rfl ?_
  refine v_alu rfl (an _) ?_
  refine v_ast9 rfl rfl (by decide) ⟨by omega, by show _ < (300 : Int); omega⟩ ?_
  refine v_load rfl rfl ⟨rfl, Nat.le_of_ble_eq_true rfl⟩ ?_
  refine v_load rfl rfl ⟨rfl, Nat.le_of_ble_eq_true rfl⟩ ?_
  refine v_getx rfl rfl (show _ = (tp.length : Int) + 1 + 1 + 1 by rw [u_n1 (by decide)]; exact u_eq) ?_
  refine v_push rfl ?_
  refine v_add rfl (by omega) ?_
  refine v_puti rfl rfl rfl ?_
  refine v_iinc rfl rfl rfl (by omega) rfl ?_
  refine v_goto rfl ?_
  refine v_load rfl rfl ⟨rfl, Nat.le_of_ble_eq_true rfl⟩ ?_
  refine v_iflt rfl (fun _ => ?_) (fun h => absurd h (by decide))
  refine v_ret rfl rfl ?_
  have ll : (tp ++ z_four x).length = tp.length + 4 := by simp [z_four]
  refine k _ ⟨by rw [u_eq, ll]; omega, by omega, fun i hi => ?_⟩ (fun b j b1 b2 => ?_)
  · rw [ll] at hi
    by_cases c : i < tp.length
    · rw [g_app1 c]
      simp (disch := first | decide | omega) only [u_n1, u_n2]
      exact h3 i c
    · have : i = tp.length ∨ i = tp.length + 1 ∨ i = tp.length + 2 ∨ i = tp.length + 3 := by omega
      rw [getD_app2 (by omega)]
      rcases this with rfl | rfl | rfl | rfl
      · rw [Nat.sub_self]
        simp (disch := first | decide | omega) only [u_n1, u_n2, u_eq]
        show x / 16777216 % 256 = x % 4294967296 / 16777216
        omega
      · rw [show tp.length + 1 - tp.length = 1 by omega, show ((tp.length + 1 : Nat) : Int) = (tp.length : Int) + 1 by omega]
        simp (disch := first | decide | omega) only [u_n1, u_n2, u_eq]
        show x / 65536 % 256 = x % 4294967296 / 65536 % 256
        omega
      · rw [show tp.length + 2 - tp.length = 2 by omega, show ((tp.length + 2 : Nat) : Int) = (tp.length : Int) + 1 + 1 by omega]
        simp (disch := first | decide | omega) only [u_n1, u_n2, u_eq]
        show x / 256 % 256 = x % 4294967296 / 256 % 256
        omega
      · rw [show tp.length + 3 - tp.length = 3 by omega, show ((tp.length + 3 : Nat) : Int) = (tp.length : Int) + 1 + 1 + 1 by omega]
        simp (disch := first | decide | omega) only [u_n1, u_n2, u_eq]
        rfl
  · have h3 : ¬ (b = 77 ∧ j = 3) := fun z => b2 z.1 z.2
    simp only [z_upd]
    simp only [h3, if_false]
    repeat' rw [if_neg (by omega)]
theorem RS_tape {M' : zM} {tp : List Int} (h : RS s M) (ho : ∀ b j, b ≠ 78 → (b = 77 → j ≠ 3) → M' b j = M b j) (hv : RTp tp M') : RS (tpS s tp) M' := by
  obtain ⟨h1, -, h3, h4, h5, h6, h7⟩ := h
  exact ⟨RSt_fr h1 (fun j hj => ho 77 j (by decide) (by omega)) (fun b j hb => ho b j (by omega) (by omega)), hv, HRp_fr h3 (ho 77 65 (by decide) (by decide)) (fun j => ho 125 j (by decide) (by omega)), HRf_fr h4 (ho 77 66 (by decide) (by decide)) (fun j => ho 126 j (by decide) (by omega)), KPR_fr h5 (fun j hj => ho 77 j (by decide) (by omega)) (fun b j hb => ho b j (by omega) (by omega)), by rw [ho 77 67 (by decide) (by decide)]; exact h6, by rw [ho 77 68 (by decide) (by decide)]; exact h7⟩
theorem R_feed {a b c dd e : Int} (hC : RS s M) (k : ∀ M', RS (feedS s a b c dd e).1 M' → z_oR 77 127 M M' → Q (some (0, (feedS s a b c dd e).2)) M') : v_call L (d + 2) 175 [(2, 77), (0, a), (0, b), (0, c), (0, dd), (0, e)] M Q := by
  have hP := hC.2.1
  have hl := hP.2.1
  have l4 : ∀ x, (z_four x).length = 4 := fun x => rfl
  refine v_in ?_
  by_cases hc : (s.1.2.length : Int) + 20 ≤ 300
  · have ef : feedS s a b c dd e = (tpS s (s.1.2 ++ (z_four a ++ z_four b ++ z_four c ++ z_four dd ++ z_four e)), (s.1.2.length : Int) + 20) := by unfold feedS; rw [if_pos hc]
    rw [ef] at k
    refine v_load rfl rfl ⟨rfl, Nat.le_of_ble_eq_true rfl⟩ ?_
    refine v_getx rfl rfl (hP.1) ?_
    refine v_push rfl ?_
    refine v_add rfl (by omega) ?_
    refine v_push rfl ?_
    refine v_ile rfl (fun _ => ?_) (fun h => absurd h (by omega))
    refine v_load rfl rfl ⟨rfl, Nat.le_of_ble_eq_true rfl⟩ ?_
    refine v_load rfl rfl ⟨rfl, Nat.le_of_ble_eq_true rfl⟩ ?_
    refine v_callr rfl ⟨Nat.le_of_ble_eq_true rfl, Nat.le_of_ble_eq_true rfl, rfl, Nat.le_of_ble_eq_true rfl, rfl⟩ ?_
    refine R_four hP (by omega) (fun M1 v1 o1 => ?_)
    refine v_load rfl rfl ⟨rfl, Nat.le_of_ble_eq_true rfl⟩ ?_
    refine v_load rfl rfl ⟨rfl, Nat.le_of_ble_eq_true rfl⟩ ?_
    refine v_callr rfl ⟨Nat.le_of_ble_eq_true rfl, Nat.le_of_ble_eq_true rfl, rfl, Nat.le_of_ble_eq_true rfl, rfl⟩ ?_
    refine R_four v1 (by simp [l4]; omega) (fun M2 v2 o2 => ?_)
    refine v_load rfl rfl ⟨rfl, Nat.le_of_ble_eq_true rfl⟩ ?_
    refine v_load rfl rfl ⟨rfl, Nat.le_of_ble_eq_true rfl⟩ ?_
    refine v_callr rfl ⟨Nat.le_of_ble_eq_true rfl, Nat.le_of_ble_eq_true rfl, rfl, Nat.le_of_ble_eq_true rfl, rfl⟩ ?_
    refine R_four v2 (by simp [l4]; omega) (fun M3 v3 o3 => ?_)
    refine v_load rfl rfl ⟨rfl, Nat.le_of_ble_eq_true rfl⟩ ?_
    refine v_load rfl rfl ⟨rfl, Nat.le_of_ble_eq_true rfl⟩ ?_
    refine v_callr rfl ⟨Nat.le_of_ble_eq_true rfl, Nat.le_of_ble_eq_true rfl, rfl, Nat.le_of_ble_eq_true rfl, rfl⟩ ?_
    refine R_four v3 (by simp [l4]; omega) (fun M4 v4 o4 => ?_)
    refine v_load rfl rfl ⟨rfl, Nat.le_of_ble_eq_true rfl⟩ ?_
    refine v_load rfl rfl ⟨rfl, Nat.le_of_ble_eq_true rfl⟩ ?_
    refine v_callr rfl ⟨Nat.le_of_ble_eq_true rfl, Nat.le_of_ble_eq_true rfl, rfl, Nat.le_of_ble_eq_true rfl, rfl⟩ ?_
    refine R_four v4 (by simp [l4]; omega) (fun M5 v5 o5 => ?_)
    have oo : ∀ b j, b ≠ 78 → (b = 77 → j ≠ 3) → M5 b j = M b j := fun b j b1 b2 => by rw [o5 b j b1 b2, o4 b j b1 b2, o3 b j b1 b2, o2 b j b1 b2, o1 b j b1 b2]
    have v5' : RTp (s.1.2 ++ (z_four a ++ z_four b ++ z_four c ++ z_four dd ++ z_four e)) M5 := by simpa using v5
    have e3 : M5 77 3 = (s.1.2.length : Int) + 20 := by rw [v5'.1]; simp [l4]
    refine v_load rfl rfl ⟨rfl, Nat.le_of_ble_eq_true rfl⟩ ?_
    refine v_getx rfl rfl (e3) ?_
    refine v_ret rfl rfl ?_
    exact k M5 (RS_tape hC oo v5') (fun b j hb => oo b j (by omega) (by omega))
  · have ef : feedS s a b c dd e = (s, -1) := by unfold feedS; rw [if_neg hc]
    rw [ef] at k
    refine v_load rfl rfl ⟨rfl, Nat.le_of_ble_eq_true rfl⟩ ?_
    refine v_getx rfl rfl (hP.1) ?_
    refine v_push rfl ?_
    refine v_add rfl (by omega) ?_
    refine v_push rfl ?_
    refine v_ile rfl (fun h => absurd h (by omega)) (fun _ => ?_)
    refine v_push rfl ?_
    refine v_ret rfl rfl ?_
    exact k M hC z_oR_rf
end A1
