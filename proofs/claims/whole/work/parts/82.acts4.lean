/-! ACTS: wrap, copy -/
section A4
variable {L d n : Nat} {M : zM} {Q : Option zV → zM → Prop} {s : zA}
theorem by_1 {x : Int} (h : 0 ≤ x ∧ x < 256) : z_by [x] := fun y hy => by
  rcases List.mem_singleton.mp hy with rfl
  exact h
theorem DRF_ed {t fr xs : List Int} {a b : Int} (h : DRF xs M) (e : xs = t.take a.toNat ++ fr ++ t.drop b.toNat) : DRF (edT t fr a b) M := by
  rw [e] at h
  exact h
/-- the end of most ACTS: an edit that may be too long -/
noncomputable def fitS (s : zA) (fr : List Int) (a b : Int) : zA × Int := if ((edT s.1.1 fr a b).length : Int) ≤ 300 then (edS s (edT s.1.1 fr a b) a b, kpN s.1.1 (edT s.1.1 fr a b) a b) else (s, -2)
/-- wrap -/
noncomputable def wrapS (s : zA) (i : Int) : zA × Int := if itm (nd (NT (toks s.1.1)) i).1 = true then fitS s ([123] ++ sub s.1.1 (pF s.1.1 i) (pE s.1.1 i) ++ [125]) (pF s.1.1 i) (pE s.1.1 i) else (s, -1)
theorem S_wrap {i : Int} (hC : CS s M) (hB : BS s n) (hn : n ≤ 600) (k : ∀ M', CS (wrapS s i).1 M' → z_oR 1 76 M M' → Q (some (0, (wrapS s i).2)) M') : v_call L (d + 102) 125 [(2, 1), (0, i)] M Q := by
  obtain ⟨h1, -, -, -, h5, h6, -⟩ := id hC
  have hl := hB.1
  have hby := hB.2.2.1
  have r1 := pF_rng s.1.1 i
  have r2 := pE_rng s.1.1 i
  have r3 := pF_pE (t := s.1.1) i
  unfold wrapS at k
  refine v_in ?_
  by_cases c : itm (nd (NT (toks s.1.1)) i).1 = true
  · rw [if_pos c] at k
    unfold fitS at k
    have hbe : z_by (edT s.1.1 ([123] ++ sub s.1.1 (pF s.1.1 i) (pE s.1.1 i) ++ [125]) (pF s.1.1 i) (pE s.1.1 i)) := edT_by hby (z_by_app (z_by_app (by_1 (by decide)) (z_by_sub hby)) (by_1 (by decide)))
    refine v_load rfl rfl ⟨rfl, Nat.le_of_ble_eq_true rfl⟩ ?_
    refine v_getp rfl rfl rfl ?_
    refine v_load rfl rfl ⟨rfl, Nat.le_of_ble_eq_true rfl⟩ ?_
    refine v_callr rfl ⟨Nat.le_of_ble_eq_true rfl, Nat.le_of_ble_eq_true rfl, rfl, Nat.le_of_ble_eq_true rfl, rfl⟩ ?_
    refine S_isItem h6.1 ?_
    rw [b2i_t c]
    refine v_ifne rfl (fun _ => ?_) (fun h => absurd h (by decide))
    refine v_load rfl rfl ⟨rfl, Nat.le_of_ble_eq_true rfl⟩ ?_
    refine v_getp rfl rfl rfl ?_
    refine v_load rfl rfl ⟨rfl, Nat.le_of_ble_eq_true rfl⟩ ?_
    refine v_callr rfl ⟨Nat.le_of_ble_eq_true rfl, Nat.le_of_ble_eq_true rfl, rfl, Nat.le_of_ble_eq_true rfl, rfl⟩ ?_
    refine S_firstOf h5 h6 hl ?_
    refine v_store rfl ⟨rfl, Nat.le_of_ble_eq_true rfl, Nat.le_of_ble_eq_true rfl, rfl⟩ rfl ?_
    refine v_load rfl rfl ⟨rfl, Nat.le_of_ble_eq_true rfl⟩ ?_
    refine v_getp rfl rfl rfl ?_
    refine v_load rfl rfl ⟨rfl, Nat.le_of_ble_eq_true rfl⟩ ?_
    refine v_callr rfl ⟨Nat.le_of_ble_eq_true rfl, Nat.le_of_ble_eq_true rfl, rfl, Nat.le_of_ble_eq_true rfl, rfl⟩ ?_
    refine S_endOf h1 h5 h6 hl ?_
    refine v_store rfl ⟨rfl, Nat.le_of_ble_eq_true rfl, Nat.le_of_ble_eq_true rfl, rfl⟩ rfl ?_
    refine v_load rfl rfl ⟨rfl, Nat.le_of_ble_eq_true rfl⟩ ?_
    refine v_getp rfl rfl rfl ?_
    refine v_callr rfl ⟨Nat.le_of_ble_eq_true rfl, Nat.le_of_ble_eq_true rfl, rfl, Nat.le_of_ble_eq_true rfl, rfl⟩ ?_
    refine S_dClear (fun M1 d1 o1 => ?_)
    have v1 : BV M1 2 s.1.1 0 := BV_oR h1 o1 (by decide)
    refine v_load rfl rfl ⟨rfl, Nat.le_of_ble_eq_true rfl⟩ ?_
    refine v_getp rfl rfl rfl ?_
    refine v_load rfl rfl ⟨rfl, Nat.le_of_ble_eq_true rfl⟩ ?_
    refine v_getp rfl rfl rfl ?_
    refine v_push rfl ?_
    refine v_load rfl rfl ⟨rfl, Nat.le_of_ble_eq_true rfl⟩ ?_
    refine v_callr rfl ⟨Nat.le_of_ble_eq_true rfl, Nat.le_of_ble_eq_true rfl, rfl, Nat.le_of_ble_eq_true rfl, rfl⟩ ?_
    refine S_dFrom d1 (Or.inl rfl) v1 (by decide) ⟨r1.1, r1.2⟩ (fun M2 d2 o2 => ?_)
    refine v_load rfl rfl ⟨rfl, Nat.le_of_ble_eq_true rfl⟩ ?_
    refine v_getp rfl rfl rfl ?_
    refine v_push rfl ?_
    refine v_callr rfl ⟨Nat.le_of_ble_eq_true rfl, Nat.le_of_ble_eq_true rfl, rfl, Nat.le_of_ble_eq_true rfl, rfl⟩ ?_
    refine S_dAdd d2 (fun M3 d3 o3 => ?_)
    have v3 : BV M3 2 s.1.1 0 := BV_oR (BV_oR v1 o2 (by decide)) o3 (by decide)
    refine v_load rfl rfl ⟨rfl, Nat.le_of_ble_eq_true rfl⟩ ?_
    refine v_getp rfl rfl rfl ?_
    refine v_load rfl rfl ⟨rfl, Nat.le_of_ble_eq_true rfl⟩ ?_
    refine v_getp rfl rfl rfl ?_
    refine v_load rfl rfl ⟨rfl, Nat.le_of_ble_eq_true rfl⟩ ?_
    refine v_load rfl rfl ⟨rfl, Nat.le_of_ble_eq_true rfl⟩ ?_
    refine v_callr rfl ⟨Nat.le_of_ble_eq_true rfl, Nat.le_of_ble_eq_true rfl, rfl, Nat.le_of_ble_eq_true rfl, rfl⟩ ?_
    refine S_dFrom d3 (Or.inl rfl) v3 r1.1 ⟨r2.1, r2.2⟩ (fun M4 d4 o4 => ?_)
    refine v_load rfl rfl ⟨rfl, Nat.le_of_ble_eq_true rfl⟩ ?_
    refine v_getp rfl rfl rfl ?_
    refine v_push rfl ?_
    refine v_callr rfl ⟨Nat.le_of_ble_eq_true rfl, Nat.le_of_ble_eq_true rfl, rfl, Nat.le_of_ble_eq_true rfl, rfl⟩ ?_
    refine S_dAdd d4 (fun M5 d5 o5 => ?_)
    have v5 : BV M5 2 s.1.1 0 := BV_oR (BV_oR v3 o4 (by decide)) o5 (by decide)
    refine v_load rfl rfl ⟨rfl, Nat.le_of_ble_eq_true rfl⟩ ?_
    refine v_getp rfl rfl rfl ?_
    refine v_load rfl rfl ⟨rfl, Nat.le_of_ble_eq_true rfl⟩ ?_
    refine v_getp rfl rfl rfl ?_
    refine v_load rfl rfl ⟨rfl, Nat.le_of_ble_eq_true rfl⟩ ?_
    refine v_load rfl rfl ⟨rfl, Nat.le_of_ble_eq_true rfl⟩ ?_
    refine v_getp rfl rfl rfl ?_
    refine v_callr rfl ⟨Nat.le_of_ble_eq_true rfl, Nat.le_of_ble_eq_true rfl, rfl, Nat.le_of_ble_eq_true rfl, rfl⟩ ?_
    refine S_sizeT z_B2 v5 ?_
    refine v_callr rfl ⟨Nat.le_of_ble_eq_true rfl, Nat.le_of_ble_eq_true rfl, rfl, Nat.le_of_ble_eq_true rfl, rfl⟩ ?_
    refine S_dFrom d5 (Or.inl rfl) v5 r2.1 ⟨by omega, Int.le_refl _⟩ (fun M6 d6 o6 => ?_)
    have o16 : z_oR 6 7 M M6 := z_oR_tr o1 (z_oR_tr o2 (z_oR_tr o3 (z_oR_tr o4 (z_oR_tr o5 o6))))
    have d6' := DRF_ed (t := s.1.1) (fr := [123] ++ sub s.1.1 (pF s.1.1 i) (pE s.1.1 i) ++ [125]) (a := pF s.1.1 i) (b := pE s.1.1 i) d6 (by rw [sub_0, sub_end]; simp)
    have hC6 := CS_draft hC o16 d6'
    by_cases cc : ((edT s.1.1 ([123] ++ sub s.1.1 (pF s.1.1 i) (pE s.1.1 i) ++ [125]) (pF s.1.1 i) (pE s.1.1 i)).length : Int) ≤ 300
    · rw [if_pos cc] at k
      refine v_load rfl rfl ⟨rfl, Nat.le_of_ble_eq_true rfl⟩ ?_
      refine v_getp rfl rfl rfl ?_
      refine v_callr rfl ⟨Nat.le_of_ble_eq_true rfl, Nat.le_of_ble_eq_true rfl, rfl, Nat.le_of_ble_eq_true rfl, rfl⟩ ?_
      refine S_dSpill d6' hbe ?_
      rw [if_pos cc]
      refine v_ifeq rfl (fun _ => ?_) (fun h => absurd h (by decide))
      refine v_load rfl rfl ⟨rfl, Nat.le_of_ble_eq_true rfl⟩ ?_
      refine v_load rfl rfl ⟨rfl, Nat.le_of_ble_eq_true rfl⟩ ?_
      refine v_load rfl rfl ⟨rfl, Nat.le_of_ble_eq_true rfl⟩ ?_
      refine v_callr rfl ⟨Nat.le_of_ble_eq_true rfl, Nat.le_of_ble_eq_true rfl, rfl, Nat.le_of_ble_eq_true rfl, rfl⟩ ?_
      refine S_settleS (n := n) hC6 hB hn (DRF_fit d6' hbe (by omega)) hbe (fun M7 c7 o7 => ?_)
      refine v_ret rfl rfl ?_
      exact k M7 c7 (z_oR_tr (z_oR_w o16 (by decide) (by decide)) o7)
    · rw [if_neg cc] at k
      refine v_load rfl rfl ⟨rfl, Nat.le_of_ble_eq_true rfl⟩ ?_
      refine v_getp rfl rfl rfl ?_
      refine v_callr rfl ⟨Nat.le_of_ble_eq_true rfl, Nat.le_of_ble_eq_true rfl, rfl, Nat.le_of_ble_eq_true rfl, rfl⟩ ?_
      refine S_dSpill d6' hbe ?_
      rw [if_neg cc]
      refine v_ifeq rfl (fun h => absurd h (by decide)) (fun _ => ?_)
      refine v_push rfl ?_
      refine v_goto rfl ?_
      refine v_ret rfl rfl ?_
      exact k M6 hC6 (z_oR_w o16 (by decide) (by decide))
  · rw [if_neg c] at k
    refine v_load rfl rfl ⟨rfl, Nat.le_of_ble_eq_true rfl⟩ ?_
    refine v_getp rfl rfl rfl ?_
    refine v_load rfl rfl ⟨rfl, Nat.le_of_ble_eq_true rfl⟩ ?_
    refine v_callr rfl ⟨Nat.le_of_ble_eq_true rfl, Nat.le_of_ble_eq_true rfl, rfl, Nat.le_of_ble_eq_true rfl, rfl⟩ ?_
    refine S_isItem h6.1 ?_
    rw [b2i_f c]
    refine v_ifne rfl (fun h => absurd h (by decide)) (fun _ => ?_)
    refine v_push rfl ?_
    refine v_ret rfl rfl ?_
    exact k M hC z_oR_rf
theorem R_wrap {i : Int} (hC : RS s M) (hB : BS s n) (hn : n ≤ 600) (hi : z_i32 i) (k : ∀ M', RS (wrapS s i).1 M' → z_oR 77 127 M M' → Q (some (0, (wrapS s i).2)) M') : v_call L (d + 12) 251 [(2, 77), (0, i)] M Q := by
  have hS := hC.1
  have h4 := hS.1.1
  have r1 := pF_rng s.1.1 i
  have r2 := pE_rng s.1.1 i
  have r3 := pF_pE (t := s.1.1) i
  have hl := hB.1
  unfold wrapS at k
  refine v_in ?_
  by_cases c : itm (nd (NT (toks s.1.1)) i).1 = true
  · rw [if_pos c] at k
    have hin := itm_in c
    unfold fitS at k
    have hs := sub_len (t := s.1.1) (a := pF s.1.1 i) (b := pE s.1.1 i) ⟨r1.1, r3, r2.2⟩
    have hel := edT_len (t := s.1.1) (fr := [123] ++ sub s.1.1 (pF s.1.1 i) (pE s.1.1 i) ++ [125]) (a := pF s.1.1 i) (b := pE s.1.1 i) ⟨r1.1, r3, r2.2⟩
    have hfl : (([123] ++ sub s.1.1 (pF s.1.1 i) (pE s.1.1 i) ++ [125] : List Int).length : Int) = pE s.1.1 i - pF s.1.1 i + 2 := by simp; omega
    by_cases cc : (s.1.1.length : Int) + 2 ≤ 300
    · rw [if_pos (by omega)] at k
      have f0 := RFr_0 (M := M)
      have hC1 := RS_oF hC f0.2
      refine v_load rfl rfl ⟨rfl, Nat.le_of_ble_eq_true rfl⟩ ?_
      refine v_load rfl rfl ⟨rfl, Nat.le_of_ble_eq_true rfl⟩ ?_
      refine v_callr rfl ⟨Nat.le_of_ble_eq_true rfl, Nat.le_of_ble_eq_true rfl, rfl, Nat.le_of_ble_eq_true rfl, rfl⟩ ?_
      refine R_isItem hS hi ?_
      rw [b2i_t c]
      refine v_ifne rfl (fun _ => ?_) (fun h => absurd h (by decide))
      refine v_load rfl rfl ⟨rfl, Nat.le_of_ble_eq_true rfl⟩ ?_
      refine v_getx rfl rfl (h4) ?_
      refine v_push rfl ?_
      refine v_add rfl (by omega) ?_
      refine v_push rfl ?_
      refine v_ile rfl (fun _ => ?_) (fun h => absurd h (by omega))
      refine v_load rfl rfl ⟨rfl, Nat.le_of_ble_eq_true rfl⟩ ?_
      refine v_push rfl ?_
      refine v_puti rfl rfl rfl ?_
      refine v_load rfl rfl ⟨rfl, Nat.le_of_ble_eq_true rfl⟩ ?_
      refine v_push rfl ?_
      refine v_callr rfl ⟨Nat.le_of_ble_eq_true rfl, Nat.le_of_ble_eq_true rfl, rfl, Nat.le_of_ble_eq_true rfl, rfl⟩ ?_
      refine R_comes f0.1 (by decide) (fun M2 f2 o2 => ?_)
      have hC2 := RS_oF hC1 o2
      refine v_load rfl rfl ⟨rfl, Nat.le_of_ble_eq_true rfl⟩ ?_
      refine v_load rfl rfl ⟨rfl, Nat.le_of_ble_eq_true rfl⟩ ?_
      refine v_load rfl rfl ⟨rfl, Nat.le_of_ble_eq_true rfl⟩ ?_
      refine v_callr rfl ⟨Nat.le_of_ble_eq_true rfl, Nat.le_of_ble_eq_true rfl, rfl, Nat.le_of_ble_eq_true rfl, rfl⟩ ?_
      refine R_from hC2.1 hin ?_
      refine v_load rfl rfl ⟨rfl, Nat.le_of_ble_eq_true rfl⟩ ?_
      refine v_load rfl rfl ⟨rfl, Nat.le_of_ble_eq_true rfl⟩ ?_
      refine v_callr rfl ⟨Nat.le_of_ble_eq_true rfl, Nat.le_of_ble_eq_true rfl, rfl, Nat.le_of_ble_eq_true rfl, rfl⟩ ?_
      refine R_to hC2.1 hin ?_
      refine v_callr rfl ⟨Nat.le_of_ble_eq_true rfl, Nat.le_of_ble_eq_true rfl, rfl, Nat.le_of_ble_eq_true rfl, rfl⟩ ?_
      refine R_comeText f2 hC2.1.1 ⟨r1.1, r2.2⟩ (by simp; omega) (fun M3 f3 o3 => ?_)
      refine v_load rfl rfl ⟨rfl, Nat.le_of_ble_eq_true rfl⟩ ?_
      refine v_push rfl ?_
      refine v_callr rfl ⟨Nat.le_of_ble_eq_true rfl, Nat.le_of_ble_eq_true rfl, rfl, Nat.le_of_ble_eq_true rfl, rfl⟩ ?_
      refine R_comes f3 (by simp; omega) (fun M4 f4 o4 => ?_)
      have hC4 := RS_oF (RS_oF hC2 o3) o4
      refine v_load rfl rfl ⟨rfl, Nat.le_of_ble_eq_true rfl⟩ ?_
      refine v_load rfl rfl ⟨rfl, Nat.le_of_ble_eq_true rfl⟩ ?_
      refine v_load rfl rfl ⟨rfl, Nat.le_of_ble_eq_true rfl⟩ ?_
      refine v_callr rfl ⟨Nat.le_of_ble_eq_true rfl, Nat.le_of_ble_eq_true rfl, rfl, Nat.le_of_ble_eq_true rfl, rfl⟩ ?_
      refine R_from hC4.1 hin ?_
      refine v_load rfl rfl ⟨rfl, Nat.le_of_ble_eq_true rfl⟩ ?_
      refine v_load rfl rfl ⟨rfl, Nat.le_of_ble_eq_true rfl⟩ ?_
      refine v_callr rfl ⟨Nat.le_of_ble_eq_true rfl, Nat.le_of_ble_eq_true rfl, rfl, Nat.le_of_ble_eq_true rfl, rfl⟩ ?_
      refine R_to hC4.1 hin ?_
      refine v_callr rfl ⟨Nat.le_of_ble_eq_true rfl, Nat.le_of_ble_eq_true rfl, rfl, Nat.le_of_ble_eq_true rfl, rfl⟩ ?_
      refine R_editsS (fr := [123] ++ sub s.1.1 (pF s.1.1 i) (pE s.1.1 i) ++ [125]) hC4 hB hn f4 ⟨r1.1, r3, r2.2⟩ (by rw [hfl]; omega) (fun M5 c5 e5 o5 => ?_)
      refine v_load rfl rfl ⟨rfl, Nat.le_of_ble_eq_true rfl⟩ ?_
      refine v_getx rfl rfl (e5) ?_
      refine v_ret rfl rfl ?_
      exact k M5 c5 (z_oR_tr (oF_R (oF_tr f0.2 (oF_tr o2 (oF_tr o3 o4)))) o5)
    · rw [if_neg (by omega)] at k
      refine v_load rfl rfl ⟨rfl, Nat.le_of_ble_eq_true rfl⟩ ?_
      refine v_load rfl rfl ⟨rfl, Nat.le_of_ble_eq_true rfl⟩ ?_
      refine v_callr rfl ⟨Nat.le_of_ble_eq_true rfl, Nat.le_of_ble_eq_true rfl, rfl, Nat.le_of_ble_eq_true rfl, rfl⟩ ?_
      refine R_isItem hS hi ?_
      rw [b2i_t c]
      refine v_ifne rfl (fun _ => ?_) (fun h => absurd h (by decide))
      refine v_load rfl rfl ⟨rfl, Nat.le_of_ble_eq_true rfl⟩ ?_
      refine v_getx rfl rfl (h4) ?_
      refine v_push rfl ?_
      refine v_add rfl (by omega) ?_
      refine v_push rfl ?_
      refine v_ile rfl (fun h => absurd h (by omega)) (fun _ => ?_)
      refine v_push rfl ?_
      refine v_ret rfl rfl ?_
      exact k M hC z_oR_rf
  · rw [if_neg c] at k
    refine v_load rfl rfl ⟨rfl, Nat.le_of_ble_eq_true rfl⟩ ?_
    refine v_load rfl rfl ⟨rfl, Nat.le_of_ble_eq_true rfl⟩ ?_
    refine v_callr rfl ⟨Nat.le_of_ble_eq_true rfl, Nat.le_of_ble_eq_true rfl, rfl, Nat.le_of_ble_eq_true rfl, rfl⟩ ?_
    refine R_isItem hS hi ?_
    rw [b2i_f c]
    refine v_ifne rfl (fun h => absurd h (by decide)) (fun _ => ?_)
    refine v_push rfl ?_
    refine v_ret rfl rfl ?_
    exact k M hC z_oR_rf
/-- copy -/
noncomputable def copyS (s : zA) (i j : Int) : zA × Int := if itm (nd (NT (toks s.1.1)) i).1 = true ∧ itm (nd (NT (toks s.1.1)) j).1 = true then fitS s (sub s.1.1 (pF s.1.1 i) (pE s.1.1 i)) (pF s.1.1 j) (pF s.1.1 j) else (s, -1)
theorem S_copy {i j : Int} (hC : CS s M) (hB : BS s n) (hn : n ≤ 600) (k : ∀ M', CS (copyS s i j).1 M' → z_oR 1 76 M M' → Q (some (0, (copyS s i j).2)) M') : v_call L (d + 102) 127 [(2, 1), (0, i), (0, j)] M Q := by
  obtain ⟨h1, -, -, -, h5, h6, -⟩ := id hC
  have hl := hB.1
  have hby := hB.2.2.1
  have r1 := pF_rng s.1.1 i
  have r2 := pE_rng s.1.1 i
  have r3 := pF_rng s.1.1 j
  unfold copyS at k
  refine v_in ?_
  by_cases c : itm (nd (NT (toks s.1.1)) i).1 = true ∧ itm (nd (NT (toks s.1.1)) j).1 = true
  · rw [if_pos c] at k
    unfold fitS at k
    have hbe : z_by (edT s.1.1 (sub s.1.1 (pF s.1.1 i) (pE s.1.1 i)) (pF s.1.1 j) (pF s.1.1 j)) := edT_by hby (z_by_sub hby)
    refine v_load rfl rfl ⟨rfl, Nat.le_of_ble_eq_true rfl⟩ ?_
    refine v_getp rfl rfl rfl ?_
    refine v_load rfl rfl ⟨rfl, Nat.le_of_ble_eq_true rfl⟩ ?_
    refine v_callr rfl ⟨Nat.le_of_ble_eq_true rfl, Nat.le_of_ble_eq_true rfl, rfl, Nat.le_of_ble_eq_true rfl, rfl⟩ ?_
    refine S_isItem h6.1 ?_
    rw [b2i_t c.1]
    refine v_ifeq rfl (fun h => absurd h (by decide)) (fun _ => ?_)
    refine v_load rfl rfl ⟨rfl, Nat.le_of_ble_eq_true rfl⟩ ?_
    refine v_getp rfl rfl rfl ?_
    refine v_load rfl rfl ⟨rfl, Nat.le_of_ble_eq_true rfl⟩ ?_
    refine v_callr rfl ⟨Nat.le_of_ble_eq_true rfl, Nat.le_of_ble_eq_true rfl, rfl, Nat.le_of_ble_eq_true rfl, rfl⟩ ?_
    refine S_isItem h6.1 ?_
    rw [b2i_t c.2]
    refine v_ifne rfl (fun _ => ?_) (fun h => absurd h (by decide))
    refine v_load rfl rfl ⟨rfl, Nat.le_of_ble_eq_true rfl⟩ ?_
    refine v_getp rfl rfl rfl ?_
    refine v_load rfl rfl ⟨rfl, Nat.le_of_ble_eq_true rfl⟩ ?_
    refine v_callr rfl ⟨Nat.le_of_ble_eq_true rfl, Nat.le_of_ble_eq_true rfl, rfl, Nat.le_of_ble_eq_true rfl, rfl⟩ ?_
    refine S_firstOf h5 h6 hl ?_
    refine v_store rfl ⟨rfl, Nat.le_of_ble_eq_true rfl, Nat.le_of_ble_eq_true rfl, rfl⟩ rfl ?_
    refine v_load rfl rfl ⟨rfl, Nat.le_of_ble_eq_true rfl⟩ ?_
    refine v_getp rfl rfl rfl ?_
    refine v_callr rfl ⟨Nat.le_of_ble_eq_true rfl, Nat.le_of_ble_eq_true rfl, rfl, Nat.le_of_ble_eq_true rfl, rfl⟩ ?_
    refine S_dClear (fun M1 d1 o1 => ?_)
    have v1 : BV M1 2 s.1.1 0 := BV_oR h1 o1 (by decide)
    refine v_load rfl rfl ⟨rfl, Nat.le_of_ble_eq_true rfl⟩ ?_
    refine v_getp rfl rfl rfl ?_
    refine v_load rfl rfl ⟨rfl, Nat.le_of_ble_eq_true rfl⟩ ?_
    refine v_getp rfl rfl rfl ?_
    refine v_push rfl ?_
    refine v_load rfl rfl ⟨rfl, Nat.le_of_ble_eq_true rfl⟩ ?_
    refine v_callr rfl ⟨Nat.le_of_ble_eq_true rfl, Nat.le_of_ble_eq_true rfl, rfl, Nat.le_of_ble_eq_true rfl, rfl⟩ ?_
    refine S_dFrom d1 (Or.inl rfl) v1 (by decide) ⟨r3.1, r3.2⟩ (fun M2 d2 o2 => ?_)
    have o12 := z_oR_tr o1 o2
    have v2 : BV M2 2 s.1.1 0 := BV_oR h1 o12 (by decide)
    have q5 := RT_oR h5 o12 (by decide)
    have q6 := TN_oR h6 o12 (by decide)
    refine v_load rfl rfl ⟨rfl, Nat.le_of_ble_eq_true rfl⟩ ?_
    refine v_getp rfl rfl rfl ?_
    refine v_load rfl rfl ⟨rfl, Nat.le_of_ble_eq_true rfl⟩ ?_
    refine v_getp rfl rfl rfl ?_
    refine v_load rfl rfl ⟨rfl, Nat.le_of_ble_eq_true rfl⟩ ?_
    refine v_getp rfl rfl rfl ?_
    refine v_load rfl rfl ⟨rfl, Nat.le_of_ble_eq_true rfl⟩ ?_
    refine v_callr rfl ⟨Nat.le_of_ble_eq_true rfl, Nat.le_of_ble_eq_true rfl, rfl, Nat.le_of_ble_eq_true rfl, rfl⟩ ?_
    refine S_firstOf q5 q6 hl ?_
    refine v_load rfl rfl ⟨rfl, Nat.le_of_ble_eq_true rfl⟩ ?_
    refine v_getp rfl rfl rfl ?_
    refine v_load rfl rfl ⟨rfl, Nat.le_of_ble_eq_true rfl⟩ ?_
    refine v_callr rfl ⟨Nat.le_of_ble_eq_true rfl, Nat.le_of_ble_eq_true rfl, rfl, Nat.le_of_ble_eq_true rfl, rfl⟩ ?_
    refine S_endOf v2 q5 q6 hl ?_
    refine v_callr rfl ⟨Nat.le_of_ble_eq_true rfl, Nat.le_of_ble_eq_true rfl, rfl, Nat.le_of_ble_eq_true rfl, rfl⟩ ?_
    refine S_dFrom d2 (Or.inl rfl) v2 r1.1 ⟨r2.1, r2.2⟩ (fun M4 d4 o4 => ?_)
    have v5 : BV M4 2 s.1.1 0 := BV_oR v2 o4 (by decide)
    refine v_load rfl rfl ⟨rfl, Nat.le_of_ble_eq_true rfl⟩ ?_
    refine v_getp rfl rfl rfl ?_
    refine v_load rfl rfl ⟨rfl, Nat.le_of_ble_eq_true rfl⟩ ?_
    refine v_getp rfl rfl rfl ?_
    refine v_load rfl rfl ⟨rfl, Nat.le_of_ble_eq_true rfl⟩ ?_
    refine v_load rfl rfl ⟨rfl, Nat.le_of_ble_eq_true rfl⟩ ?_
    refine v_getp rfl rfl rfl ?_
    refine v_callr rfl ⟨Nat.le_of_ble_eq_true rfl, Nat.le_of_ble_eq_true rfl, rfl, Nat.le_of_ble_eq_true rfl, rfl⟩ ?_
    refine S_sizeT z_B2 v5 ?_
    refine v_callr rfl ⟨Nat.le_of_ble_eq_true rfl, Nat.le_of_ble_eq_true rfl, rfl, Nat.le_of_ble_eq_true rfl, rfl⟩ ?_
    refine S_dFrom d4 (Or.inl rfl) v5 r3.1 ⟨by omega, Int.le_refl _⟩ (fun M6 d6 o6 => ?_)
    have o16 : z_oR 6 7 M M6 := z_oR_tr o12 (z_oR_tr o4 o6)
    have d6' := DRF_ed (t := s.1.1) (fr := sub s.1.1 (pF s.1.1 i) (pE s.1.1 i)) (a := pF s.1.1 j) (b := pF s.1.1 j) d6 (by rw [sub_0, sub_end]; simp)
    have hC6 := CS_draft hC o16 d6'
    by_cases cc : ((edT s.1.1 (sub s.1.1 (pF s.1.1 i) (pE s.1.1 i)) (pF s.1.1 j) (pF s.1.1 j)).length : Int) ≤ 300
    · rw [if_pos cc] at k
      refine v_load rfl rfl ⟨rfl, Nat.le_of_ble_eq_true rfl⟩ ?_
      refine v_getp rfl rfl rfl ?_
      refine v_callr rfl ⟨Nat.le_of_ble_eq_true rfl, Nat.le_of_ble_eq_true rfl, rfl, Nat.le_of_ble_eq_true rfl, rfl⟩ ?_
      refine S_dSpill d6' hbe ?_
      rw [if_pos cc]
      refine v_ifeq rfl (fun _ => ?_) (fun h => absurd h (by decide))
      refine v_load rfl rfl ⟨rfl, Nat.le_of_ble_eq_true rfl⟩ ?_
      refine v_load rfl rfl ⟨rfl, Nat.le_of_ble_eq_true rfl⟩ ?_
      refine v_load rfl rfl ⟨rfl, Nat.le_of_ble_eq_true rfl⟩ ?_
      refine v_callr rfl ⟨Nat.le_of_ble_eq_true rfl, Nat.le_of_ble_eq_true rfl, rfl, Nat.le_of_ble_eq_true rfl, rfl⟩ ?_
      refine S_settleS (n := n) hC6 hB hn (DRF_fit d6' hbe (by omega)) hbe (fun M7 c7 o7 => ?_)
      refine v_ret rfl rfl ?_
      exact k M7 c7 (z_oR_tr (z_oR_w o16 (by decide) (by decide)) o7)
    · rw [if_neg cc] at k
      refine v_load rfl rfl ⟨rfl, Nat.le_of_ble_eq_true rfl⟩ ?_
      refine v_getp rfl rfl rfl ?_
      refine v_callr rfl ⟨Nat.le_of_ble_eq_true rfl, Nat.le_of_ble_eq_true rfl, rfl, Nat.le_of_ble_eq_true rfl, rfl⟩ ?_
      refine S_dSpill d6' hbe ?_
      rw [if_neg cc]
      refine v_ifeq rfl (fun h => absurd h (by decide)) (fun _ => ?_)
      refine v_push rfl ?_
      refine v_goto rfl ?_
      refine v_ret rfl rfl ?_
      exact k M6 hC6 (z_oR_w o16 (by decide) (by decide))
  · rw [if_neg c] at k
    by_cases c1 : itm (nd (NT (toks s.1.1)) i).1 = true
    · refine v_load rfl rfl ⟨rfl, Nat.le_of_ble_eq_true rfl⟩ ?_
      refine v_getp rfl rfl rfl ?_
      refine v_load rfl rfl ⟨rfl, Nat.le_of_ble_eq_true rfl⟩ ?_
      refine v_callr rfl ⟨Nat.le_of_ble_eq_true rfl, Nat.le_of_ble_eq_true rfl, rfl, Nat.le_of_ble_eq_true rfl, rfl⟩ ?_
      refine S_isItem h6.1 ?_
      rw [b2i_t c1]
      refine v_ifeq rfl (fun h => absurd h (by decide)) (fun _ => ?_)
      refine v_load rfl rfl ⟨rfl, Nat.le_of_ble_eq_true rfl⟩ ?_
      refine v_getp rfl rfl rfl ?_
      refine v_load rfl rfl ⟨rfl, Nat.le_of_ble_eq_true rfl⟩ ?_
      refine v_callr rfl ⟨Nat.le_of_ble_eq_true rfl, Nat.le_of_ble_eq_true rfl, rfl, Nat.le_of_ble_eq_true rfl, rfl⟩ ?_
      refine S_isItem h6.1 ?_
      rw [b2i_f (fun h => c ⟨c1, h⟩)]
      refine v_ifne rfl (fun h => absurd h (by decide)) (fun _ => ?_)
      refine v_push rfl ?_
      refine v_ret rfl rfl ?_
      exact k M hC z_oR_rf
    · refine v_load rfl rfl ⟨rfl, Nat.le_of_ble_eq_true rfl⟩ ?_
      refine v_getp rfl rfl rfl ?_
      refine v_load rfl rfl ⟨rfl, Nat.le_of_ble_eq_true rfl⟩ ?_
      refine v_callr rfl ⟨Nat.le_of_ble_eq_true rfl, Nat.le_of_ble_eq_true rfl, rfl, Nat.le_of_ble_eq_true rfl, rfl⟩ ?_
      refine S_isItem h6.1 ?_
      rw [b2i_f c1]
      refine v_ifeq rfl (fun _ => ?_) (fun h => absurd h (by decide))
      refine v_push rfl ?_
      refine v_ret rfl rfl ?_
      exact k M hC z_oR_rf
theorem R_copy {i j : Int} (hC : RS s M) (hB : BS s n) (hn : n ≤ 600) (hi : z_i32 i) (hj : z_i32 j) (k : ∀ M', RS (copyS s i j).1 M' → z_oR 77 127 M M' → Q (some (0, (copyS s i j).2)) M') : v_call L (d + 12) 254 [(2, 77), (0, i), (0, j)] M Q := by
  have hS := hC.1
  have h4 := hS.1.1
  have r1 := pF_rng s.1.1 i
  have r2 := pE_rng s.1.1 i
  have r3 := pF_pE (t := s.1.1) i
  have r4 := pF_rng s.1.1 j
  have hl := hB.1
  unfold copyS at k
  refine v_in ?_
  by_cases c : itm (nd (NT (toks s.1.1)) i).1 = true ∧ itm (nd (NT (toks s.1.1)) j).1 = true
  · rw [if_pos c] at k
    have hin := itm_in c.1
    have hjn := itm_in c.2
    unfold fitS at k
    have hs := sub_len (t := s.1.1) (a := pF s.1.1 i) (b := pE s.1.1 i) ⟨r1.1, r3, r2.2⟩
    have hel := edT_len (t := s.1.1) (fr := sub s.1.1 (pF s.1.1 i) (pE s.1.1 i)) (a := pF s.1.1 j) (b := pF s.1.1 j) ⟨r4.1, Int.le_refl _, r4.2⟩
    by_cases cc : (s.1.1.length : Int) + pE s.1.1 i - pF s.1.1 i ≤ 300
    · rw [if_pos (by omega)] at k
      have f0 := RFr_0 (M := M)
      have hC1 := RS_oF hC f0.2
      refine v_load rfl rfl ⟨rfl, Nat.le_of_ble_eq_true rfl⟩ ?_
      refine v_load rfl rfl ⟨rfl, Nat.le_of_ble_eq_true rfl⟩ ?_
      refine v_callr rfl ⟨Nat.le_of_ble_eq_true rfl, Nat.le_of_ble_eq_true rfl, rfl, Nat.le_of_ble_eq_true rfl, rfl⟩ ?_
      refine R_isItem hS hi ?_
      rw [b2i_t c.1]
      refine v_ifeq rfl (fun h => absurd h (by decide)) (fun _ => ?_)
      refine v_load rfl rfl ⟨rfl, Nat.le_of_ble_eq_true rfl⟩ ?_
      refine v_load rfl rfl ⟨rfl, Nat.le_of_ble_eq_true rfl⟩ ?_
      refine v_callr rfl ⟨Nat.le_of_ble_eq_true rfl, Nat.le_of_ble_eq_true rfl, rfl, Nat.le_of_ble_eq_true rfl, rfl⟩ ?_
      refine R_isItem hS hj ?_
      rw [b2i_t c.2]
      refine v_ifne rfl (fun _ => ?_) (fun h => absurd h (by decide))
      refine v_load rfl rfl ⟨rfl, Nat.le_of_ble_eq_true rfl⟩ ?_
      refine v_getx rfl rfl (h4) ?_
      refine v_load rfl rfl ⟨rfl, Nat.le_of_ble_eq_true rfl⟩ ?_
      refine v_load rfl rfl ⟨rfl, Nat.le_of_ble_eq_true rfl⟩ ?_
      refine v_callr rfl ⟨Nat.le_of_ble_eq_true rfl, Nat.le_of_ble_eq_true rfl, rfl, Nat.le_of_ble_eq_true rfl, rfl⟩ ?_
      refine R_to hS hin ?_
      refine v_add rfl (by omega) ?_
      refine v_load rfl rfl ⟨rfl, Nat.le_of_ble_eq_true rfl⟩ ?_
      refine v_load rfl rfl ⟨rfl, Nat.le_of_ble_eq_true rfl⟩ ?_
      refine v_callr rfl ⟨Nat.le_of_ble_eq_true rfl, Nat.le_of_ble_eq_true rfl, rfl, Nat.le_of_ble_eq_true rfl, rfl⟩ ?_
      refine R_from hS hin ?_
      refine v_sub rfl (by omega) ?_
      refine v_push rfl ?_
      refine v_ile rfl (fun _ => ?_) (fun h => absurd h (by omega))
      refine v_load rfl rfl ⟨rfl, Nat.le_of_ble_eq_true rfl⟩ ?_
      refine v_push rfl ?_
      refine v_puti rfl rfl rfl ?_
      refine v_load rfl rfl ⟨rfl, Nat.le_of_ble_eq_true rfl⟩ ?_
      refine v_load rfl rfl ⟨rfl, Nat.le_of_ble_eq_true rfl⟩ ?_
      refine v_load rfl rfl ⟨rfl, Nat.le_of_ble_eq_true rfl⟩ ?_
      refine v_callr rfl ⟨Nat.le_of_ble_eq_true rfl, Nat.le_of_ble_eq_true rfl, rfl, Nat.le_of_ble_eq_true rfl, rfl⟩ ?_
      refine R_from hC1.1 hin ?_
      refine v_load rfl rfl ⟨rfl, Nat.le_of_ble_eq_true rfl⟩ ?_
      refine v_load rfl rfl ⟨rfl, Nat.le_of_ble_eq_true rfl⟩ ?_
      refine v_callr rfl ⟨Nat.le_of_ble_eq_true rfl, Nat.le_of_ble_eq_true rfl, rfl, Nat.le_of_ble_eq_true rfl, rfl⟩ ?_
      refine R_to hC1.1 hin ?_
      refine v_callr rfl ⟨Nat.le_of_ble_eq_true rfl, Nat.le_of_ble_eq_true rfl, rfl, Nat.le_of_ble_eq_true rfl, rfl⟩ ?_
      refine R_comeText f0.1 hC1.1.1 ⟨r1.1, r2.2⟩ (by simp; omega) (fun M3 f3 o3 => ?_)
      have hC4 := RS_oF hC1 o3
      refine v_load rfl rfl ⟨rfl, Nat.le_of_ble_eq_true rfl⟩ ?_
      refine v_load rfl rfl ⟨rfl, Nat.le_of_ble_eq_true rfl⟩ ?_
      refine v_load rfl rfl ⟨rfl, Nat.le_of_ble_eq_true rfl⟩ ?_
      refine v_callr rfl ⟨Nat.le_of_ble_eq_true rfl, Nat.le_of_ble_eq_true rfl, rfl, Nat.le_of_ble_eq_true rfl, rfl⟩ ?_
      refine R_from hC4.1 hjn ?_
      refine v_load rfl rfl ⟨rfl, Nat.le_of_ble_eq_true rfl⟩ ?_
      refine v_load rfl rfl ⟨rfl, Nat.le_of_ble_eq_true rfl⟩ ?_
      refine v_callr rfl ⟨Nat.le_of_ble_eq_true rfl, Nat.le_of_ble_eq_true rfl, rfl, Nat.le_of_ble_eq_true rfl, rfl⟩ ?_
      refine R_from hC4.1 hjn ?_
      refine v_callr rfl ⟨Nat.le_of_ble_eq_true rfl, Nat.le_of_ble_eq_true rfl, rfl, Nat.le_of_ble_eq_true rfl, rfl⟩ ?_
      refine R_editsS (fr := sub s.1.1 (pF s.1.1 i) (pE s.1.1 i)) hC4 hB hn f3 ⟨r4.1, Int.le_refl _, r4.2⟩ (by omega) (fun M5 c5 e5 o5 => ?_)
      refine v_load rfl rfl ⟨rfl, Nat.le_of_ble_eq_true rfl⟩ ?_
      refine v_getx rfl rfl (e5) ?_
      refine v_ret rfl rfl ?_
      exact k M5 c5 (z_oR_tr (oF_R (oF_tr f0.2 o3)) o5)
    · rw [if_neg (by omega)] at k
      refine v_load rfl rfl ⟨rfl, Nat.le_of_ble_eq_true rfl⟩ ?_
      refine v_load rfl rfl ⟨rfl, Nat.le_of_ble_eq_true rfl⟩ ?_
      refine v_callr rfl ⟨Nat.le_of_ble_eq_true rfl, Nat.le_of_ble_eq_true rfl, rfl, Nat.le_of_ble_eq_true rfl, rfl⟩ ?_
      refine R_isItem hS hi ?_
      rw [b2i_t c.1]
      refine v_ifeq rfl (fun h => absurd h (by decide)) (fun _ => ?_)
      refine v_load rfl rfl ⟨rfl, Nat.le_of_ble_eq_true rfl⟩ ?_
      refine v_load rfl rfl ⟨rfl, Nat.le_of_ble_eq_true rfl⟩ ?_
      refine v_callr rfl ⟨Nat.le_of_ble_eq_true rfl, Nat.le_of_ble_eq_true rfl, rfl, Nat.le_of_ble_eq_true rfl, rfl⟩ ?_
      refine R_isItem hS hj ?_
      rw [b2i_t c.2]
      refine v_ifne rfl (fun _ => ?_) (fun h => absurd h (by decide))
      refine v_load rfl rfl ⟨rfl, Nat.le_of_ble_eq_true rfl⟩ ?_
      refine v_getx rfl rfl (h4) ?_
      refine v_load rfl rfl ⟨rfl, Nat.le_of_ble_eq_true rfl⟩ ?_
      refine v_load rfl rfl ⟨rfl, Nat.le_of_ble_eq_true rfl⟩ ?_
      refine v_callr rfl ⟨Nat.le_of_ble_eq_true rfl, Nat.le_of_ble_eq_true rfl, rfl, Nat.le_of_ble_eq_true rfl, rfl⟩ ?_
      refine R_to hS hin ?_
      refine v_add rfl (by omega) ?_
      refine v_load rfl rfl ⟨rfl, Nat.le_of_ble_eq_true rfl⟩ ?_
      refine v_load rfl rfl ⟨rfl, Nat.le_of_ble_eq_true rfl⟩ ?_
      refine v_callr rfl ⟨Nat.le_of_ble_eq_true rfl, Nat.le_of_ble_eq_true rfl, rfl, Nat.le_of_ble_eq_true rfl, rfl⟩ ?_
      refine R_from hS hin ?_
      refine v_sub rfl (by omega) ?_
      refine v_push rfl ?_
      refine v_ile rfl (fun h => absurd h (by omega)) (fun _ => ?_)
      refine v_push rfl ?_
      refine v_ret rfl rfl ?_
      exact k M hC z_oR_rf
  · rw [if_neg c] at k
    by_cases c1 : itm (nd (NT (toks s.1.1)) i).1 = true
    · refine v_load rfl rfl ⟨rfl, Nat.le_of_ble_eq_true rfl⟩ ?_
      refine v_load rfl rfl ⟨rfl, Nat.le_of_ble_eq_true rfl⟩ ?_
      refine v_callr rfl ⟨Nat.le_of_ble_eq_true rfl, Nat.le_of_ble_eq_true rfl, rfl, Nat.le_of_ble_eq_true rfl, rfl⟩ ?_
      refine R_isItem hS hi ?_
      rw [b2i_t c1]
      refine v_ifeq rfl (fun h => absurd h (by decide)) (fun _ => ?_)
      refine v_load rfl rfl ⟨rfl, Nat.le_of_ble_eq_true rfl⟩ ?_
      refine v_load rfl rfl ⟨rfl, Nat.le_of_ble_eq_true rfl⟩ ?_
      refine v_callr rfl ⟨Nat.le_of_ble_eq_true rfl, Nat.le_of_ble_eq_true rfl, rfl, Nat.le_of_ble_eq_true rfl, rfl⟩ ?_
      refine R_isItem hS hj ?_
      rw [b2i_f (fun h => c ⟨c1, h⟩)]
      refine v_ifne rfl (fun h => absurd h (by decide)) (fun _ => ?_)
      refine v_push rfl ?_
      refine v_ret rfl rfl ?_
      exact k M hC z_oR_rf
    · refine v_load rfl rfl ⟨rfl, Nat.le_of_ble_eq_true rfl⟩ ?_
      refine v_load rfl rfl ⟨rfl, Nat.le_of_ble_eq_true rfl⟩ ?_
      refine v_callr rfl ⟨Nat.le_of_ble_eq_true rfl, Nat.le_of_ble_eq_true rfl, rfl, Nat.le_of_ble_eq_true rfl, rfl⟩ ?_
      refine R_isItem hS hi ?_
      rw [b2i_f c1]
      refine v_ifeq rfl (fun _ => ?_) (fun h => absurd h (by decide))
      refine v_push rfl ?_
      refine v_ret rfl rfl ?_
      exact k M hC z_oR_rf
end A4
