/-! ACTS: load, edit, drop, undo, redo -/
theorem edT_by {t fr : List Int} {a b : Int} (h1 : z_by t) (h2 : z_by fr) : z_by (edT t fr a b) := z_by_app (z_by_app (z_by_take h1) h2) (z_by_drop h1)
section A2
variable {L d n : Nat} {M : zM} {Q : Option zV → zM → Prop} {s : zA}
theorem CS_to {M' : zM} {lo hi : Int} (h : CS s M) (ho : z_oR lo hi M M') (hx : 74 < lo) : CS s M' := CI_oR h ho hx
theorem RS_to {M' : zM} {lo hi : Int} (h : RS s M) (ho : z_oR lo hi M M') (hx : hi < 77) : RS s M' := RJ_oR h ho hx
/-- the class settles -/
theorem S_settleS {t' : List Int} {a b : Int} (hC : CS s M) (hB : BS s n) (hn : n ≤ 600) (hD : BV M 6 t' 0) (hby : z_by t') (k : ∀ M', CS (edS s t' a b) M' → z_oR 1 76 M M' → Q (some (0, kpN s.1.1 t' a b)) M') : v_call L (d + 101) 132 [(2, 1), (0, a), (0, b)] M Q := by
  obtain ⟨b1, b2, b3, b4, b5, b6, b7, b8, b9, b10⟩ := hB
  exact S_settle hC hD b1 hby ⟨by omega, by omega, by omega, by omega⟩ (fun M' c o => k M' c o)
theorem R_editsS {fr : List Int} {a b : Int} (hJ : RS s M) (hB : BS s n) (hn : n ≤ 600) (hF : RFr fr M) (hab : 0 ≤ a ∧ a ≤ b ∧ b ≤ (s.1.1.length : Int)) (hlen : (s.1.1.length : Int) + ((fr.length : Int) - (b - a)) ≤ 300) (k : ∀ M', RS (edS s (edT s.1.1 fr a b) a b) M' → M' 77 62 = kpN s.1.1 (edT s.1.1 fr a b) a b → z_oR 77 127 M M' → Q none M') : v_call L (d + 11) 238 [(2, 77), (0, a), (0, b)] M Q := by
  obtain ⟨b1, b2, b3, b4, b5, b6, b7, b8, b9, b10⟩ := hB
  exact R_edits hJ hF hab hlen ⟨by omega, by omega, by omega, by omega⟩ (fun M' c o => k M' c c.2.2.2.2.1.2.2.2.2 o)
theorem RS_oF {M' : zM} (h : RS s M) (ho : oF M M') : RS s M' := by
  obtain ⟨h1, h2, h3, h4, h5, h6, h7⟩ := h
  exact ⟨RSt_fr h1 (fun j hj => ho 77 j (by decide) (by omega)) (fun b j hb => ho b j (by omega) (by omega)), RTp_fr h2 (ho 77 3 (by decide) (by decide)) (fun j => ho 78 j (by decide) (by omega)), HRp_fr h3 (ho 77 65 (by decide) (by decide)) (fun j => ho 125 j (by decide) (by omega)), HRf_fr h4 (ho 77 66 (by decide) (by decide)) (fun j => ho 126 j (by decide) (by omega)), KPR_fr h5 (fun j hj => ho 77 j (by decide) (by omega)) (fun b j hb => ho b j (by omega) (by omega)), by rw [ho 77 67 (by decide) (by decide)]; exact h6, by rw [ho 77 68 (by decide) (by decide)]; exact h7⟩
/-- no byte came yet -/
theorem RFr_0 : RFr [] (z_upd M 77 5 0) ∧ oF M (z_upd M 77 5 0) := ⟨⟨u_eq, Nat.zero_le _, fun i hi => absurd hi (Nat.not_lt_zero _)⟩, fun b j b1 b2 => by
  have h3 : ¬ (b = 77 ∧ j = 5) := fun z => b2 z.1 z.2
  simp only [z_upd]
  rw [if_neg h3]⟩
theorem oF_R {M M' : zM} (h : oF M M') : z_oR 77 127 M M' := fun b j hb => h b j (by omega) (by omega)
/-- drop -/
noncomputable def dropS (s : zA) (i : Int) : zA × Int := if itm (nd (NT (toks s.1.1)) i).1 = true then (edS s (edT s.1.1 [] (pF s.1.1 i) (pE s.1.1 i)) (pF s.1.1 i) (pE s.1.1 i), pE s.1.1 i - pF s.1.1 i) else (s, -1)
theorem b2i_t {b : Bool} (h : b = true) : b2i b = 1 := by rw [h]; rfl
theorem b2i_f {b : Bool} (h : ¬ b = true) : b2i b = 0 := by rw [show b = false by simpa using h]; rfl
theorem S_drop {i : Int} (hC : CS s M) (hB : BS s n) (hn : n ≤ 600) (k : ∀ M', CS (dropS s i).1 M' → z_oR 1 76 M M' → Q (some (0, (dropS s i).2)) M') : v_call L (d + 102) 124 [(2, 1), (0, i)] M Q := by
  obtain ⟨h1, -, -, -, h5, h6, -⟩ := id hC
  have hl := hB.1
  have hby := hB.2.2.1
  have r1 := pF_rng s.1.1 i
  have r2 := pE_rng s.1.1 i
  have r3 := pF_pE (t := s.1.1) i
  unfold dropS at k
  refine v_in ?_
  by_cases c : itm (nd (NT (toks s.1.1)) i).1 = true
  · rw [if_pos c] at k
    refine v_load rfl rfl ⟨rfl, Nat.le_of_ble_eq_true rfl⟩ ?_
    refine v_getp rfl rfl rfl ?_
    refine v_load rfl rfl ⟨rfl, Nat.le_of_ble_eq_true rfl⟩ ?_
    refine v_callr rfl ⟨Nat.le_of_ble_eq_true rfl, Nat.le_of_ble_eq_true rfl, rfl, Nat.le_of_ble_eq_true rfl, rfl⟩ ?_
    refine S_isItem h6.1 ?_
    rw [b2i_t c]
    refine v_ifne rfl (fun _ => ?_) (fun h => absurd h (by decide))
    refine v_load rfl rfl ⟨rfl, Nat.le_of_ble_eq_true rfl⟩ ?_
    refine v_getp rfl rfl rfl ?_
    refine v_load rfl rfl ⟨rfl, Nat.le_of_ble_eq_true rfl⟩ ?_
    refine v_callr rfl ⟨Nat.le_of_ble_eq_true rfl, Nat.le_of_ble_eq_true rfl, rfl, Nat.le_of_ble_eq_true rfl, rfl⟩ ?_
    refine S_firstOf h5 h6 hl ?_
    refine v_store rfl ⟨rfl, Nat.le_of_ble_eq_true rfl, Nat.le_of_ble_eq_true rfl, rfl⟩ rfl ?_
    refine v_load rfl rfl ⟨rfl, Nat.le_of_ble_eq_true rfl⟩ ?_
    refine v_getp rfl rfl rfl ?_
    refine v_load rfl rfl ⟨rfl, Nat.le_of_ble_eq_true rfl⟩ ?_
    refine v_callr rfl ⟨Nat.le_of_ble_eq_true rfl, Nat.le_of_ble_eq_true rfl, rfl, Nat.le_of_ble_eq_true rfl, rfl⟩ ?_
    refine S_endOf h1 h5 h6 hl ?_
    refine v_store rfl ⟨rfl, Nat.le_of_ble_eq_true rfl, Nat.le_of_ble_eq_true rfl, rfl⟩ rfl ?_
    refine v_load rfl rfl ⟨rfl, Nat.le_of_ble_eq_true rfl⟩ ?_
    refine v_getp rfl rfl rfl ?_
    refine v_callr rfl ⟨Nat.le_of_ble_eq_true rfl, Nat.le_of_ble_eq_true rfl, rfl, Nat.le_of_ble_eq_true rfl, rfl⟩ ?_
    refine S_dClear (fun M1 d1 o1 => ?_)
    have v1 : BV M1 2 s.1.1 0 := BV_oR h1 o1 (by decide)
    refine v_load rfl rfl ⟨rfl, Nat.le_of_ble_eq_true rfl⟩ ?_
    refine v_getp rfl rfl rfl ?_
    refine v_load rfl rfl ⟨rfl, Nat.le_of_ble_eq_true rfl⟩ ?_
    refine v_getp rfl rfl rfl ?_
    refine v_push rfl ?_
    refine v_load rfl rfl ⟨rfl, Nat.le_of_ble_eq_true rfl⟩ ?_
    refine v_callr rfl ⟨Nat.le_of_ble_eq_true rfl, Nat.le_of_ble_eq_true rfl, rfl, Nat.le_of_ble_eq_true rfl, rfl⟩ ?_
    refine S_dFrom d1 (Or.inl rfl) v1 (by decide) ⟨r1.1, r1.2⟩ (fun M2 d2 o2 => ?_)
    have v2 : BV M2 2 s.1.1 0 := BV_oR v1 o2 (by decide)
    refine v_load rfl rfl ⟨rfl, Nat.le_of_ble_eq_true rfl⟩ ?_
    refine v_getp rfl rfl rfl ?_
    refine v_load rfl rfl ⟨rfl, Nat.le_of_ble_eq_true rfl⟩ ?_
    refine v_getp rfl rfl rfl ?_
    refine v_load rfl rfl ⟨rfl, Nat.le_of_ble_eq_true rfl⟩ ?_
    refine v_load rfl rfl ⟨rfl, Nat.le_of_ble_eq_true rfl⟩ ?_
    refine v_getp rfl rfl rfl ?_
    refine v_callr rfl ⟨Nat.le_of_ble_eq_true rfl, Nat.le_of_ble_eq_true rfl, rfl, Nat.le_of_ble_eq_true rfl, rfl⟩ ?_
    refine S_sizeT z_B2 v2 ?_
    refine v_callr rfl ⟨Nat.le_of_ble_eq_true rfl, Nat.le_of_ble_eq_true rfl, rfl, Nat.le_of_ble_eq_true rfl, rfl⟩ ?_
    refine S_dFrom d2 (Or.inl rfl) v2 r2.1 ⟨by omega, Int.le_refl _⟩ (fun M3 d3 o3 => ?_)
    have o13 : z_oR 6 7 M M3 := z_oR_tr o1 (z_oR_tr o2 o3)
    have e3 : [] ++ sub s.1.1 0 (pF s.1.1 i) ++ sub s.1.1 (pE s.1.1 i) (s.1.1.length : Int) = edT s.1.1 [] (pF s.1.1 i) (pE s.1.1 i) := by rw [sub_0, sub_end]; unfold edT; simp
    rw [e3] at d3
    have hel := edT_len (t := s.1.1) (fr := []) (a := pF s.1.1 i) (b := pE s.1.1 i) ⟨r1.1, r3, r2.2⟩
    have hbe : z_by (edT s.1.1 [] (pF s.1.1 i) (pE s.1.1 i)) := edT_by hby (fun x hx => absurd hx List.not_mem_nil)
    refine v_load rfl rfl ⟨rfl, Nat.le_of_ble_eq_true rfl⟩ ?_
    refine v_load rfl rfl ⟨rfl, Nat.le_of_ble_eq_true rfl⟩ ?_
    refine v_load rfl rfl ⟨rfl, Nat.le_of_ble_eq_true rfl⟩ ?_
    refine v_callr rfl ⟨Nat.le_of_ble_eq_true rfl, Nat.le_of_ble_eq_true rfl, rfl, Nat.le_of_ble_eq_true rfl, rfl⟩ ?_
    refine S_settleS (n := n) (CS_draft hC o13 d3) hB hn (DRF_fit d3 hbe (by simp at hel; omega)) hbe (fun M4 c4 o4 => ?_)
    refine v_pop rfl (Or.inl rfl) ?_
    refine v_load rfl rfl ⟨rfl, Nat.le_of_ble_eq_true rfl⟩ ?_
    refine v_load rfl rfl ⟨rfl, Nat.le_of_ble_eq_true rfl⟩ ?_
    refine v_sub rfl (by omega) ?_
    refine v_ret rfl rfl ?_
    exact k M4 c4 (z_oR_tr (z_oR_w o13 (by decide) (by decide)) o4)
  · rw [if_neg c] at k
    refine v_load rfl rfl ⟨rfl, Nat.le_of_ble_eq_true rfl⟩ ?_
    refine v_getp rfl rfl rfl ?_
    refine v_load rfl rfl ⟨rfl, Nat.le_of_ble_eq_true rfl⟩ ?_
    refine v_callr rfl ⟨Nat.le_of_ble_eq_true rfl, Nat.le_of_ble_eq_true rfl, rfl, Nat.le_of_ble_eq_true rfl, rfl⟩ ?_
    refine S_isItem h6.1 ?_
    rw [b2i_f c]
    refine v_ifne rfl (fun h => absurd h (by decide)) (fun _ => ?_)
    refine v_push rfl ?_
    refine v_ret rfl rfl ?_
    exact k M hC z_oR_rf
theorem R_isNode {t : List Int} {i : Int} (hS : RSt t M) (hi : z_i32 i) (k : Q (some (0, b2i (decide (0 ≤ i ∧ i ≤ ((NT (toks t)).length : Int) - 1)))) M) : v_call L (d + 1) 241 [(2, 77), (0, i)] M Q := by
  obtain ⟨h44, hl⟩ := TM_len hS.2.2.1
  refine v_in ?_
  refine v_load rfl rfl ⟨rfl, Nat.le_of_ble_eq_true rfl⟩ ?_
  refine v_push rfl ?_
  refine v_load rfl rfl ⟨rfl, Nat.le_of_ble_eq_true rfl⟩ ?_
  refine v_getx rfl rfl (h44) ?_
  refine v_push rfl ?_
  refine v_sub rfl (by omega) ?_
  refine v_callr rfl ⟨Nat.le_of_ble_eq_true rfl, Nat.le_of_ble_eq_true rfl, rfl, Nat.le_of_ble_eq_true rfl, rfl⟩ ?_
  refine R_in ?_
  first | refine v_ret rfl rfl ?_ | refine v_retz rfl (b2i_01 _) ?_ | refine v_retz rfl (by omega) ?_
  exact k
theorem R_isItem {t : List Int} {i : Int} (hS : RSt t M) (hi : z_i32 i) (k : Q (some (0, b2i (itm (nd (NT (toks t)) i).1))) M) : v_call L (d + 2) 243 [(2, 77), (0, i)] M Q := by
  obtain ⟨h44, hl⟩ := TM_len hS.2.2.1
  refine v_in ?_
  by_cases c : 0 ≤ i ∧ i ≤ ((NT (toks t)).length : Int) - 1
  · have hin : i.toNat < (NT (toks t)).length := by omega
    have g1 := (TM_at hS.2.2.1 hin).1
    rw [show ((i.toNat : Nat) : Int) = i by omega, ← nd_in (N := NT (toks t)) (i := i) ⟨by omega, by omega⟩] at g1
    generalize (nd (NT (toks t)) i).1 = so at *
    have hk : b2i (itm so) = if so = 2 ∨ so = 3 ∨ (5 ≤ so ∧ so ≤ 9) then 1 else 0 := by
      by_cases y : so = 2 ∨ so = 3 ∨ (5 ≤ so ∧ so ≤ 9)
      · rw [if_pos y]; exact b2i_t (decide_eq_true y)
      · rw [if_neg y]; exact b2i_f (by unfold itm; simpa using y)
    rw [hk] at k
    refine v_load rfl rfl ⟨rfl, Nat.le_of_ble_eq_true rfl⟩ ?_
    refine v_load rfl rfl ⟨rfl, Nat.le_of_ble_eq_true rfl⟩ ?_
    refine v_callr rfl ⟨Nat.le_of_ble_eq_true rfl, Nat.le_of_ble_eq_true rfl, rfl, Nat.le_of_ble_eq_true rfl, rfl⟩ ?_
    refine R_isNode hS hi ?_
    rw [b2i_t (decide_eq_true c)]
    refine v_ifne rfl (fun _ => ?_) (fun h => absurd h (by decide))
    refine v_load rfl rfl ⟨rfl, Nat.le_of_ble_eq_true rfl⟩ ?_
    refine v_getp rfl rfl rfl ?_
    refine v_load rfl rfl ⟨rfl, Nat.le_of_ble_eq_true rfl⟩ ?_
    refine v_ald9 rfl rfl ⟨by omega, by show _ < (1600 : Int); omega⟩ ?_
    rw [g1]
    refine v_store rfl ⟨rfl, Nat.le_of_ble_eq_true rfl, Nat.le_of_ble_eq_true rfl, rfl⟩ rfl ?_
    by_cases y : 5 ≤ so ∧ so ≤ 9
    · refine v_load rfl rfl ⟨rfl, Nat.le_of_ble_eq_true rfl⟩ ?_
      refine v_push rfl ?_
      refine v_ieq rfl (fun c1 => ?_) (fun c1 => ?_)
      · refine v_push rfl ?_
        refine v_goto rfl ?_
        refine v_retz rfl (by first | exact Or.inl rfl | exact Or.inr rfl | exact b2i_01 _ | omega) ?_
        exact qeq k (by split <;> omega)
      · refine v_load rfl rfl ⟨rfl, Nat.le_of_ble_eq_true rfl⟩ ?_
        refine v_push rfl ?_
        refine v_ieq rfl (fun c2 => ?_) (fun c2 => ?_)
        · refine v_push rfl ?_
          refine v_goto rfl ?_
          refine v_retz rfl (by first | exact Or.inl rfl | exact Or.inr rfl | exact b2i_01 _ | omega) ?_
          exact qeq k (by split <;> omega)
        · refine v_load rfl rfl ⟨rfl, Nat.le_of_ble_eq_true rfl⟩ ?_
          refine v_push rfl ?_
          refine v_push rfl ?_
          refine v_callr rfl ⟨Nat.le_of_ble_eq_true rfl, Nat.le_of_ble_eq_true rfl, rfl, Nat.le_of_ble_eq_true rfl, rfl⟩ ?_
          refine R_in ?_
          rw [b2i_t (decide_eq_true y)]
          refine v_ifeq rfl (fun c3 => ?_) (fun c3 => ?_)
          · refine v_push rfl ?_
            refine v_retz rfl (by first | exact Or.inl rfl | exact Or.inr rfl | exact b2i_01 _ | omega) ?_
            exact qeq k (by split <;> omega)
          · refine v_push rfl ?_
            refine v_goto rfl ?_
            refine v_retz rfl (by first | exact Or.inl rfl | exact Or.inr rfl | exact b2i_01 _ | omega) ?_
            exact qeq k (by split <;> omega)
    · refine v_load rfl rfl ⟨rfl, Nat.le_of_ble_eq_true rfl⟩ ?_
      refine v_push rfl ?_
      refine v_ieq rfl (fun c4 => ?_) (fun c4 => ?_)
      · refine v_push rfl ?_
        refine v_goto rfl ?_
        refine v_retz rfl (by first | exact Or.inl rfl | exact Or.inr rfl | exact b2i_01 _ | omega) ?_
        exact qeq k (by split <;> omega)
      · refine v_load rfl rfl ⟨rfl, Nat.le_of_ble_eq_true rfl⟩ ?_
        refine v_push rfl ?_
        refine v_ieq rfl (fun c5 => ?_) (fun c5 => ?_)
        · refine v_push rfl ?_
          refine v_goto rfl ?_
          refine v_retz rfl (by first | exact Or.inl rfl | exact Or.inr rfl | exact b2i_01 _ | omega) ?_
          exact qeq k (by split <;> omega)
        · refine v_load rfl rfl ⟨rfl, Nat.le_of_ble_eq_true rfl⟩ ?_
          refine v_push rfl ?_
          refine v_push rfl ?_
          refine v_callr rfl ⟨Nat.le_of_ble_eq_true rfl, Nat.le_of_ble_eq_true rfl, rfl, Nat.le_of_ble_eq_true rfl, rfl⟩ ?_
          refine R_in ?_
          rw [b2i_f (by simpa using y)]
          refine v_ifeq rfl (fun c6 => ?_) (fun c6 => ?_)
          · refine v_push rfl ?_
            refine v_retz rfl (by first | exact Or.inl rfl | exact Or.inr rfl | exact b2i_01 _ | omega) ?_
            exact qeq k (by split <;> omega)
          · refine v_push rfl ?_
            refine v_goto rfl ?_
            refine v_retz rfl (by first | exact Or.inl rfl | exact Or.inr rfl | exact b2i_01 _ | omega) ?_
            exact qeq k (by split <;> omega)
  · rw [nd_out (by omega), show b2i (itm n0.1) = 0 from rfl] at k
    refine v_load rfl rfl ⟨rfl, Nat.le_of_ble_eq_true rfl⟩ ?_
    refine v_load rfl rfl ⟨rfl, Nat.le_of_ble_eq_true rfl⟩ ?_
    refine v_callr rfl ⟨Nat.le_of_ble_eq_true rfl, Nat.le_of_ble_eq_true rfl, rfl, Nat.le_of_ble_eq_true rfl, rfl⟩ ?_
    refine R_isNode hS hi ?_
    rw [b2i_f (by simpa using c)]
    refine v_ifne rfl (fun h => absurd h (by decide)) (fun _ => ?_)
    refine v_push rfl ?_
    first | refine v_ret rfl rfl ?_ | refine v_retz rfl (b2i_01 _) ?_ | refine v_retz rfl (by omega) ?_
    exact k
theorem itm_in {N : List zQ} {i : Int} (h : itm (nd N i).1 = true) : 0 ≤ i ∧ i < (N.length : Int) := by
  by_cases c : 0 ≤ i ∧ i < (N.length : Int)
  · exact c
  · rw [nd_out c] at h; exact absurd h (by decide)
theorem R_drop {i : Int} (hC : RS s M) (hB : BS s n) (hn : n ≤ 600) (hi : z_i32 i) (k : ∀ M', RS (dropS s i).1 M' → z_oR 77 127 M M' → Q (some (0, (dropS s i).2)) M') : v_call L (d + 12) 250 [(2, 77), (0, i)] M Q := by
  have hS := hC.1
  have r1 := pF_rng s.1.1 i
  have r2 := pE_rng s.1.1 i
  have r3 := pF_pE (t := s.1.1) i
  have hl := hB.1
  unfold dropS at k
  refine v_in ?_
  by_cases c : itm (nd (NT (toks s.1.1)) i).1 = true
  · rw [if_pos c] at k
    have hin := itm_in c
    have hC1 := RS_oF hC (RFr_0 (M := M)).2
    refine v_load rfl rfl ⟨rfl, Nat.le_of_ble_eq_true rfl⟩ ?_
    refine v_load rfl rfl ⟨rfl, Nat.le_of_ble_eq_true rfl⟩ ?_
    refine v_callr rfl ⟨Nat.le_of_ble_eq_true rfl, Nat.le_of_ble_eq_true rfl, rfl, Nat.le_of_ble_eq_true rfl, rfl⟩ ?_
    refine R_isItem hS hi ?_
    rw [b2i_t c]
    refine v_ifne rfl (fun _ => ?_) (fun h => absurd h (by decide))
    refine v_load rfl rfl ⟨rfl, Nat.le_of_ble_eq_true rfl⟩ ?_
    refine v_load rfl rfl ⟨rfl, Nat.le_of_ble_eq_true rfl⟩ ?_
    refine v_callr rfl ⟨Nat.le_of_ble_eq_true rfl, Nat.le_of_ble_eq_true rfl, rfl, Nat.le_of_ble_eq_true rfl, rfl⟩ ?_
    refine R_to hS hin ?_
    refine v_load rfl rfl ⟨rfl, Nat.le_of_ble_eq_true rfl⟩ ?_
    refine v_load rfl rfl ⟨rfl, Nat.le_of_ble_eq_true rfl⟩ ?_
    refine v_callr rfl ⟨Nat.le_of_ble_eq_true rfl, Nat.le_of_ble_eq_true rfl, rfl, Nat.le_of_ble_eq_true rfl, rfl⟩ ?_
    refine R_from hS hin ?_
    refine v_sub rfl (by omega) ?_
    refine v_store rfl ⟨rfl, Nat.le_of_ble_eq_true rfl, Nat.le_of_ble_eq_true rfl, rfl⟩ rfl ?_
    refine v_load rfl rfl ⟨rfl, Nat.le_of_ble_eq_true rfl⟩ ?_
    refine v_push rfl ?_
    refine v_puti rfl rfl rfl ?_
    refine v_load rfl rfl ⟨rfl, Nat.le_of_ble_eq_true rfl⟩ ?_
    refine v_load rfl rfl ⟨rfl, Nat.le_of_ble_eq_true rfl⟩ ?_
    refine v_load rfl rfl ⟨rfl, Nat.le_of_ble_eq_true rfl⟩ ?_
    refine v_callr rfl ⟨Nat.le_of_ble_eq_true rfl, Nat.le_of_ble_eq_true rfl, rfl, Nat.le_of_ble_eq_true rfl, rfl⟩ ?_
    refine R_from hC1.1 hin ?_
    refine v_load rfl rfl ⟨rfl, Nat.le_of_ble_eq_true rfl⟩ ?_
    refine v_load rfl rfl ⟨rfl, Nat.le_of_ble_eq_true rfl⟩ ?_
    refine v_callr rfl ⟨Nat.le_of_ble_eq_true rfl, Nat.le_of_ble_eq_true rfl, rfl, Nat.le_of_ble_eq_true rfl, rfl⟩ ?_
    refine R_to hC1.1 hin ?_
    refine v_callr rfl ⟨Nat.le_of_ble_eq_true rfl, Nat.le_of_ble_eq_true rfl, rfl, Nat.le_of_ble_eq_true rfl, rfl⟩ ?_
    refine R_editsS hC1 hB hn (RFr_0 (M := M)).1 ⟨r1.1, r3, r2.2⟩ (by simp; omega) (fun M2 c2 e2 o2 => ?_)
    refine v_load rfl rfl ⟨rfl, Nat.le_of_ble_eq_true rfl⟩ ?_
    refine v_ret rfl rfl ?_
    exact k M2 c2 (z_oR_tr (oF_R (RFr_0 (M := M)).2) o2)
  · rw [if_neg c] at k
    refine v_load rfl rfl ⟨rfl, Nat.le_of_ble_eq_true rfl⟩ ?_
    refine v_load rfl rfl ⟨rfl, Nat.le_of_ble_eq_true rfl⟩ ?_
    refine v_callr rfl ⟨Nat.le_of_ble_eq_true rfl, Nat.le_of_ble_eq_true rfl, rfl, Nat.le_of_ble_eq_true rfl, rfl⟩ ?_
    refine R_isItem hS hi ?_
    rw [b2i_f c]
    refine v_ifne rfl (fun h => absurd h (by decide)) (fun _ => ?_)
    refine v_push rfl ?_
    refine v_ret rfl rfl ?_
    exact k M hC z_oR_rf
/-- edit -/
noncomputable def editS (s : zA) (a b m : Int) : zA × Int := if 0 ≤ a ∧ a ≤ b ∧ b ≤ (s.1.1.length : Int) ∧ 0 ≤ m ∧ m ≤ (s.1.2.length : Int) then (if (s.1.1.length : Int) - (b - a) + m ≤ 300 then (edS (tpS s []) (edT s.1.1 (s.1.2.take m.toNat) a b) a b, kpN s.1.1 (edT s.1.1 (s.1.2.take m.toNat) a b) a b) else (s, -2)) else (s, -1)
theorem BS_tp {tp : List Int} (h : BS s n) (h1 : tp.length ≤ 300) (h2 : z_by tp) : BS (tpS s tp) n := ⟨h.1, h1, h.2.2.1, h2, h.2.2.2.2⟩
theorem S_edit {a b m : Int} (hC : CS s M) (hB : BS s n) (hn : n ≤ 600) (k : ∀ M', CS (editS s a b m).1 M' → z_oR 1 76 M M' → Q (some (0, (editS s a b m).2)) M') : v_call L (d + 102) 122 [(2, 1), (0, a), (0, b), (0, m)] M Q := by
  obtain ⟨h1, ⟨z4, h2⟩, -, -, h5, h6, -⟩ := id hC
  have hl := hB.1
  have hby := hB.2.2.1
  have hbt := hB.2.2.2.1
  unfold editS at k
  refine v_in ?_
  by_cases c : 0 ≤ a ∧ a ≤ b ∧ b ≤ (s.1.1.length : Int) ∧ 0 ≤ m ∧ m ≤ (s.1.2.length : Int)
  · rw [if_pos c] at k
    obtain ⟨c1, c2, c3, c4, c5⟩ := c
    refine v_load rfl rfl ⟨rfl, Nat.le_of_ble_eq_true rfl⟩ ?_
    refine v_iflt rfl (fun h => absurd h (by omega)) (fun _ => ?_)
    refine v_load rfl rfl ⟨rfl, Nat.le_of_ble_eq_true rfl⟩ ?_
    refine v_load rfl rfl ⟨rfl, Nat.le_of_ble_eq_true rfl⟩ ?_
    refine v_igt rfl (fun h => absurd h (by omega)) (fun _ => ?_)
    refine v_load rfl rfl ⟨rfl, Nat.le_of_ble_eq_true rfl⟩ ?_
    refine v_load rfl rfl ⟨rfl, Nat.le_of_ble_eq_true rfl⟩ ?_
    refine v_getp rfl rfl rfl ?_
    refine v_callr rfl ⟨Nat.le_of_ble_eq_true rfl, Nat.le_of_ble_eq_true rfl, rfl, Nat.le_of_ble_eq_true rfl, rfl⟩ ?_
    refine S_sizeT z_B2 h1 ?_
    refine v_igt rfl (fun h => absurd h (by omega)) (fun _ => ?_)
    refine v_load rfl rfl ⟨rfl, Nat.le_of_ble_eq_true rfl⟩ ?_
    refine v_iflt rfl (fun h => absurd h (by omega)) (fun _ => ?_)
    refine v_load rfl rfl ⟨rfl, Nat.le_of_ble_eq_true rfl⟩ ?_
    refine v_load rfl rfl ⟨rfl, Nat.le_of_ble_eq_true rfl⟩ ?_
    refine v_getp rfl rfl rfl ?_
    refine v_callr rfl ⟨Nat.le_of_ble_eq_true rfl, Nat.le_of_ble_eq_true rfl, rfl, Nat.le_of_ble_eq_true rfl, rfl⟩ ?_
    refine S_sizeT z_B4 h2 ?_
    refine v_ile rfl (fun _ => ?_) (fun h => absurd h (by omega))
    refine v_load rfl rfl ⟨rfl, Nat.le_of_ble_eq_true rfl⟩ ?_
    refine v_getp rfl rfl rfl ?_
    refine v_callr rfl ⟨Nat.le_of_ble_eq_true rfl, Nat.le_of_ble_eq_true rfl, rfl, Nat.le_of_ble_eq_true rfl, rfl⟩ ?_
    refine S_dClear (fun M1 d1 o1 => ?_)
    have v1 : BV M1 2 s.1.1 0 := BV_oR h1 o1 (by decide)
    refine v_load rfl rfl ⟨rfl, Nat.le_of_ble_eq_true rfl⟩ ?_
    refine v_getp rfl rfl rfl ?_
    refine v_load rfl rfl ⟨rfl, Nat.le_of_ble_eq_true rfl⟩ ?_
    refine v_getp rfl rfl rfl ?_
    refine v_push rfl ?_
    refine v_load rfl rfl ⟨rfl, Nat.le_of_ble_eq_true rfl⟩ ?_
    refine v_callr rfl ⟨Nat.le_of_ble_eq_true rfl, Nat.le_of_ble_eq_true rfl, rfl, Nat.le_of_ble_eq_true rfl, rfl⟩ ?_
    refine S_dFrom d1 (Or.inl rfl) v1 (by decide) ⟨c1, by omega⟩ (fun M2 d2 o2 => ?_)
    have w2 : BV M2 4 s.1.2 z4 := BV_oR (BV_oR h2 o1 (by decide)) o2 (by decide)
    refine v_load rfl rfl ⟨rfl, Nat.le_of_ble_eq_true rfl⟩ ?_
    refine v_getp rfl rfl rfl ?_
    refine v_load rfl rfl ⟨rfl, Nat.le_of_ble_eq_true rfl⟩ ?_
    refine v_getp rfl rfl rfl ?_
    refine v_push rfl ?_
    refine v_load rfl rfl ⟨rfl, Nat.le_of_ble_eq_true rfl⟩ ?_
    refine v_callr rfl ⟨Nat.le_of_ble_eq_true rfl, Nat.le_of_ble_eq_true rfl, rfl, Nat.le_of_ble_eq_true rfl, rfl⟩ ?_
    refine S_dFrom d2 (Or.inr rfl) w2 (by decide) ⟨c4, c5⟩ (fun M3 d3 o3 => ?_)
    have v3 : BV M3 2 s.1.1 0 := BV_oR (BV_oR v1 o2 (by decide)) o3 (by decide)
    refine v_load rfl rfl ⟨rfl, Nat.le_of_ble_eq_true rfl⟩ ?_
    refine v_getp rfl rfl rfl ?_
    refine v_load rfl rfl ⟨rfl, Nat.le_of_ble_eq_true rfl⟩ ?_
    refine v_getp rfl rfl rfl ?_
    refine v_load rfl rfl ⟨rfl, Nat.le_of_ble_eq_true rfl⟩ ?_
    refine v_load rfl rfl ⟨rfl, Nat.le_of_ble_eq_true rfl⟩ ?_
    refine v_getp rfl rfl rfl ?_
    refine v_callr rfl ⟨Nat.le_of_ble_eq_true rfl, Nat.le_of_ble_eq_true rfl, rfl, Nat.le_of_ble_eq_true rfl, rfl⟩ ?_
    refine S_sizeT z_B2 v3 ?_
    refine v_callr rfl ⟨Nat.le_of_ble_eq_true rfl, Nat.le_of_ble_eq_true rfl, rfl, Nat.le_of_ble_eq_true rfl, rfl⟩ ?_
    refine S_dFrom d3 (Or.inl rfl) v3 (by omega) ⟨by omega, Int.le_refl _⟩ (fun M4 d4 o4 => ?_)
    refine v_load rfl rfl ⟨rfl, Nat.le_of_ble_eq_true rfl⟩ ?_
    refine v_getp rfl rfl rfl ?_
    have o14 : z_oR 6 7 M M4 := z_oR_tr o1 (z_oR_tr o2 (z_oR_tr o3 o4))
    have e4 : [] ++ sub s.1.1 0 a ++ sub s.1.2 0 m ++ sub s.1.1 b (s.1.1.length : Int) = edT s.1.1 (s.1.2.take m.toNat) a b := by rw [sub_0, sub_0, sub_end]; unfold edT; simp
    rw [e4] at d4
    have hel := edT_len (t := s.1.1) (fr := s.1.2.take m.toNat) (a := a) (b := b) ⟨c1, c2, c3⟩
    rw [List.length_take] at hel
    have hbe : z_by (edT s.1.1 (s.1.2.take m.toNat) a b) := edT_by hby (z_by_take hbt)
    have hC4 := CS_draft hC o14 d4
    by_cases cc : (s.1.1.length : Int) - (b - a) + m ≤ 300
    · rw [if_pos cc] at k
      have w4 : BV M4 4 s.1.2 z4 := BV_oR (BV_oR w2 o3 (by decide)) o4 (by decide)
      refine v_callr rfl ⟨Nat.le_of_ble_eq_true rfl, Nat.le_of_ble_eq_true rfl, rfl, Nat.le_of_ble_eq_true rfl, rfl⟩ ?_
      refine S_dSpill d4 hbe ?_
      rw [if_pos (by omega)]
      refine v_ifeq rfl (fun _ => ?_) (fun h => absurd h (by decide))
      refine v_load rfl rfl ⟨rfl, Nat.le_of_ble_eq_true rfl⟩ ?_
      refine v_getp rfl rfl rfl ?_
      refine v_callr rfl ⟨Nat.le_of_ble_eq_true rfl, Nat.le_of_ble_eq_true rfl, rfl, Nat.le_of_ble_eq_true rfl, rfl⟩ ?_
      refine S_clear z_B4 (fun M5 v5 o5 => ?_)
      have o5' : z_oR 4 5 M4 M5 := fun b j hb => o5 b j (by omega) (by omega)
      have d5 : BV M5 6 (edT s.1.1 (s.1.2.take m.toNat) a b) 0 := BV_oR (DRF_fit d4 hbe (by omega)) o5' (by decide)
      refine v_load rfl rfl ⟨rfl, Nat.le_of_ble_eq_true rfl⟩ ?_
      refine v_load rfl rfl ⟨rfl, Nat.le_of_ble_eq_true rfl⟩ ?_
      refine v_load rfl rfl ⟨rfl, Nat.le_of_ble_eq_true rfl⟩ ?_
      refine v_callr rfl ⟨Nat.le_of_ble_eq_true rfl, Nat.le_of_ble_eq_true rfl, rfl, Nat.le_of_ble_eq_true rfl, rfl⟩ ?_
      refine S_settleS (s := tpS s []) (n := n) (CS_tape hC4 o5' v5) (BS_tp hB (Nat.zero_le _) (fun x hx => absurd hx List.not_mem_nil)) hn d5 hbe (fun M6 c6 o6 => ?_)
      refine v_ret rfl rfl ?_
      exact k M6 c6 (z_oR_tr (z_oR_w o14 (by decide) (by decide)) (z_oR_tr (z_oR_w o5' (by decide) (by decide)) o6))
    · rw [if_neg cc] at k
      refine v_callr rfl ⟨Nat.le_of_ble_eq_true rfl, Nat.le_of_ble_eq_true rfl, rfl, Nat.le_of_ble_eq_true rfl, rfl⟩ ?_
      refine S_dSpill d4 hbe ?_
      rw [if_neg (by omega)]
      refine v_ifeq rfl (fun h => absurd h (by decide)) (fun _ => ?_)
      refine v_push rfl ?_
      refine v_ret rfl rfl ?_
      exact k M4 hC4 (z_oR_w o14 (by decide) (by decide))
  · rw [if_neg c] at k
    refine v_load rfl rfl ⟨rfl, Nat.le_of_ble_eq_true rfl⟩ ?_
    refine v_iflt rfl (fun c7 => ?_) (fun c7 => ?_)
    · refine v_push rfl ?_
      refine v_ret rfl rfl ?_
      first | exact k M hC z_oR_rf | (exfalso; omega)
    · refine v_load rfl rfl ⟨rfl, Nat.le_of_ble_eq_true rfl⟩ ?_
      refine v_load rfl rfl ⟨rfl, Nat.le_of_ble_eq_true rfl⟩ ?_
      refine v_igt rfl (fun c8 => ?_) (fun c8 => ?_)
      · refine v_push rfl ?_
        refine v_ret rfl rfl ?_
        first | exact k M hC z_oR_rf | (exfalso; omega)
      · refine v_load rfl rfl ⟨rfl, Nat.le_of_ble_eq_true rfl⟩ ?_
        refine v_load rfl rfl ⟨rfl, Nat.le_of_ble_eq_true rfl⟩ ?_
        refine v_getp rfl rfl rfl ?_
        refine v_callr rfl ⟨Nat.le_of_ble_eq_true rfl, Nat.le_of_ble_eq_true rfl, rfl, Nat.le_of_ble_eq_true rfl, rfl⟩ ?_
        refine S_sizeT (by first | exact z_B2 | exact z_B4) (by first | exact h1 | exact h2) ?_
        refine v_igt rfl (fun c9 => ?_) (fun c9 => ?_)
        · refine v_push rfl ?_
          refine v_ret rfl rfl ?_
          first | exact k M hC z_oR_rf | (exfalso; omega)
        · refine v_load rfl rfl ⟨rfl, Nat.le_of_ble_eq_true rfl⟩ ?_
          refine v_iflt rfl (fun c10 => ?_) (fun c10 => ?_)
          · refine v_push rfl ?_
            refine v_ret rfl rfl ?_
            first | exact k M hC z_oR_rf | (exfalso; omega)
          · refine v_load rfl rfl ⟨rfl, Nat.le_of_ble_eq_true rfl⟩ ?_
            refine v_load rfl rfl ⟨rfl, Nat.le_of_ble_eq_true rfl⟩ ?_
            refine v_getp rfl rfl rfl ?_
            refine v_callr rfl ⟨Nat.le_of_ble_eq_true rfl, Nat.le_of_ble_eq_true rfl, rfl, Nat.le_of_ble_eq_true rfl, rfl⟩ ?_
            refine S_sizeT (by first | exact z_B2 | exact z_B4) (by first | exact h1 | exact h2) ?_
            refine v_ile rfl (fun c11 => ?_) (fun c11 => ?_)
            · first | exact k M hC z_oR_rf | (exfalso; omega)
            · refine v_push rfl ?_
              refine v_ret rfl rfl ?_
              first | exact k M hC z_oR_rf | (exfalso; omega)
theorem R_edit_loop {a b m : Int} (M0 : zM) (hP : RTp s.1.2 M0) (hm : 0 ≤ m ∧ m ≤ (s.1.2.length : Int)) (k : ∀ M', RFr (s.1.2.take m.toNat) M' → oF M0 M' → v_wp L (d + 1) 240 81 [(2, 77), (0, a), (0, b), (0, m), (0, m)] [] M' Q) : ∀ (n j : Nat) (Mc : zM), (j : Int) + (n : Int) = m → RFr (s.1.2.take j) Mc → oF M0 Mc → v_wp L (d + 1) 240 58 [(2, 77), (0, a), (0, b), (0, m), (0, (j : Int))] [] Mc Q := by
  intro n
  have hl := hP.2.1
  induction n with
  | zero =>
    intro j Mc hj hF ho
    have ej : (j : Int) = m := by omega
    rw [show j = m.toNat by omega] at hF
    rw [ej]
    refine v_load rfl rfl ⟨rfl, Nat.le_of_ble_eq_true rfl⟩ ?_
    refine v_load rfl rfl ⟨rfl, Nat.le_of_ble_eq_true rfl⟩ ?_
    refine v_ige rfl (fun _ => ?_) (fun h => absurd h (by omega))
    exact k Mc hF ho
  | succ n ih =>
    intro j Mc hj hF ho
    have q : Mc 78 (j : Int) = s.1.2.getD j 0 := (ho 78 _ (by decide) (by omega)).trans (hP.2.2 j (by omega))
    refine v_load rfl rfl ⟨rfl, Nat.le_of_ble_eq_true rfl⟩ ?_
    refine v_load rfl rfl ⟨rfl, Nat.le_of_ble_eq_true rfl⟩ ?_
    refine v_ige rfl (fun h => absurd h (by omega)) (fun _ => ?_)
    refine v_load rfl rfl ⟨rfl, Nat.le_of_ble_eq_true rfl⟩ ?_
    refine v_load rfl rfl ⟨rfl, Nat.le_of_ble_eq_true rfl⟩ ?_
    refine v_getp rfl rfl rfl ?_
    refine v_load rfl rfl ⟨rfl, Nat.le_of_ble_eq_true rfl⟩ ?_
    refine v_ald9 rfl rfl ⟨by omega, by show _ < (300 : Int); omega⟩ ?_
    rw [q]
    refine v_callr rfl ⟨Nat.le_of_ble_eq_true rfl, Nat.le_of_ble_eq_true rfl, rfl, Nat.le_of_ble_eq_true rfl, rfl⟩ ?_
    refine R_comes hF (by rw [List.length_take]; omega) (fun M1 f1 o1 => ?_)
    refine v_iinc rfl rfl rfl (by omega) rfl ?_
    refine v_goto rfl ?_
    refine ih (j + 1) M1 (by omega) ?_ (oF_tr ho o1)
    rw [List.take_succ, List.getElem?_eq_getElem (show j < s.1.2.length by omega)]
    rw [List.getD_eq_getElem?_getD, List.getElem?_eq_getElem (show j < s.1.2.length by omega)] at f1
    exact f1
theorem R_edit {a b m : Int} (hC : RS s M) (hB : BS s n) (hn : n ≤ 600) (k : ∀ M', RS (editS s a b m).1 M' → z_oR 77 127 M M' → Q (some (0, (editS s a b m).2)) M') : v_call L (d + 12) 240 [(2, 77), (0, a), (0, b), (0, m)] M Q := by
  have hS := hC.1
  have hP := hC.2.1
  have hl := hB.1
  have hlt := hB.2.1
  have h4 := hS.1.1
  have h3 := hP.1
  unfold editS at k
  refine v_in ?_
  by_cases c : 0 ≤ a ∧ a ≤ b ∧ b ≤ (s.1.1.length : Int) ∧ 0 ≤ m ∧ m ≤ (s.1.2.length : Int)
  · rw [if_pos c] at k
    obtain ⟨c1, c2, c3, c4, c5⟩ := c
    have hel := edT_len (t := s.1.1) (fr := s.1.2.take m.toNat) (a := a) (b := b) ⟨c1, c2, c3⟩
    rw [List.length_take] at hel
    by_cases cc : (s.1.1.length : Int) - (b - a) + m ≤ 300
    · rw [if_pos cc] at k
      refine v_load rfl rfl ⟨rfl, Nat.le_of_ble_eq_true rfl⟩ ?_
      refine v_iflt rfl (fun h => absurd h (by omega)) (fun _ => ?_)
      refine v_load rfl rfl ⟨rfl, Nat.le_of_ble_eq_true rfl⟩ ?_
      refine v_load rfl rfl ⟨rfl, Nat.le_of_ble_eq_true rfl⟩ ?_
      refine v_igt rfl (fun h => absurd h (by omega)) (fun _ => ?_)
      refine v_load rfl rfl ⟨rfl, Nat.le_of_ble_eq_true rfl⟩ ?_
      refine v_load rfl rfl ⟨rfl, Nat.le_of_ble_eq_true rfl⟩ ?_
      refine v_getx rfl rfl (h4) ?_
      refine v_igt rfl (fun h => absurd h (by omega)) (fun _ => ?_)
      refine v_load rfl rfl ⟨rfl, Nat.le_of_ble_eq_true rfl⟩ ?_
      refine v_iflt rfl (fun h => absurd h (by omega)) (fun _ => ?_)
      refine v_load rfl rfl ⟨rfl, Nat.le_of_ble_eq_true rfl⟩ ?_
      refine v_load rfl rfl ⟨rfl, Nat.le_of_ble_eq_true rfl⟩ ?_
      refine v_getx rfl rfl (h3) ?_
      refine v_ile rfl (fun _ => ?_) (fun h => absurd h (by omega))
      refine v_load rfl rfl ⟨rfl, Nat.le_of_ble_eq_true rfl⟩ ?_
      refine v_getx rfl rfl (h4) ?_
      refine v_load rfl rfl ⟨rfl, Nat.le_of_ble_eq_true rfl⟩ ?_
      refine v_load rfl rfl ⟨rfl, Nat.le_of_ble_eq_true rfl⟩ ?_
      refine v_sub rfl (by omega) ?_
      refine v_sub rfl (by omega) ?_
      refine v_load rfl rfl ⟨rfl, Nat.le_of_ble_eq_true rfl⟩ ?_
      refine v_add rfl (by omega) ?_
      refine v_push rfl ?_
      refine v_ile rfl (fun _ => ?_) (fun h => absurd h (by omega))
      refine v_load rfl rfl ⟨rfl, Nat.le_of_ble_eq_true rfl⟩ ?_
      refine v_push rfl ?_
      refine v_puti rfl rfl rfl ?_
      refine v_push rfl ?_
      refine v_store rfl ⟨rfl, Nat.le_of_ble_eq_true rfl, Nat.le_of_ble_eq_true rfl, rfl⟩ rfl ?_
      have f0 := RFr_0 (M := M)
      refine R_edit_loop (s := s) (z_upd M 77 5 0) (RTp_fr hP (f0.2 77 3 (by decide) (by decide)) (fun j => f0.2 78 j (by decide) (by omega))) ⟨c4, c5⟩ (fun M1 f1 o1 => ?_) m.toNat 0 _ (by omega) (by rw [List.take_zero]; exact f0.1) oF_rf
      have o01 := oF_tr f0.2 o1
      have hC1 := RS_oF hC o01
      have o2 : ∀ b j, b ≠ 78 → (b = 77 → j ≠ 3) → z_upd M1 77 3 0 b j = M1 b j := fun b j _ b2 => by
        have h3 : ¬ (b = 77 ∧ j = 3) := fun z => b2 z.1 z.2
        simp only [z_upd]
        rw [if_neg h3]
      have hC2 : RS (tpS s []) (z_upd M1 77 3 0) := RS_tape hC1 o2 ⟨u_eq, Nat.zero_le _, fun i hi => absurd hi (Nat.not_lt_zero _)⟩
      refine v_load rfl rfl ⟨rfl, Nat.le_of_ble_eq_true rfl⟩ ?_
      refine v_push rfl ?_
      refine v_puti rfl rfl rfl ?_
      refine v_load rfl rfl ⟨rfl, Nat.le_of_ble_eq_true rfl⟩ ?_
      refine v_load rfl rfl ⟨rfl, Nat.le_of_ble_eq_true rfl⟩ ?_
      refine v_load rfl rfl ⟨rfl, Nat.le_of_ble_eq_true rfl⟩ ?_
      refine v_callr rfl ⟨Nat.le_of_ble_eq_true rfl, Nat.le_of_ble_eq_true rfl, rfl, Nat.le_of_ble_eq_true rfl, rfl⟩ ?_
      refine R_editsS (s := tpS s []) (fr := s.1.2.take m.toNat) (a := a) (b := b) hC2 (BS_tp hB (Nat.zero_le _) (fun x hx => absurd hx List.not_mem_nil)) hn (RFr_fr f1 (u_n2 (by decide)) (fun j => u_n1 (by decide))) ⟨c1, c2, c3⟩ (by rw [List.length_take]; show (s.1.1.length : Int) + _ ≤ 300; omega) (fun M3 c3' e3 o3 => ?_)
      refine v_load rfl rfl ⟨rfl, Nat.le_of_ble_eq_true rfl⟩ ?_
      refine v_getx rfl rfl (e3) ?_
      refine v_ret rfl rfl ?_
      exact k M3 c3' (z_oR_tr (oF_R o01) (z_oR_tr (z_oR_u (by decide)) o3))
    · rw [if_neg cc] at k
      refine v_load rfl rfl ⟨rfl, Nat.le_of_ble_eq_true rfl⟩ ?_
      refine v_iflt rfl (fun h => absurd h (by omega)) (fun _ => ?_)
      refine v_load rfl rfl ⟨rfl, Nat.le_of_ble_eq_true rfl⟩ ?_
      refine v_load rfl rfl ⟨rfl, Nat.le_of_ble_eq_true rfl⟩ ?_
      refine v_igt rfl (fun h => absurd h (by omega)) (fun _ => ?_)
      refine v_load rfl rfl ⟨rfl, Nat.le_of_ble_eq_true rfl⟩ ?_
      refine v_load rfl rfl ⟨rfl, Nat.le_of_ble_eq_true rfl⟩ ?_
      refine v_getx rfl rfl (h4) ?_
      refine v_igt rfl (fun h => absurd h (by omega)) (fun _ => ?_)
      refine v_load rfl rfl ⟨rfl, Nat.le_of_ble_eq_true rfl⟩ ?_
      refine v_iflt rfl (fun h => absurd h (by omega)) (fun _ => ?_)
      refine v_load rfl rfl ⟨rfl, Nat.le_of_ble_eq_true rfl⟩ ?_
      refine v_load rfl rfl ⟨rfl, Nat.le_of_ble_eq_true rfl⟩ ?_
      refine v_getx rfl rfl (h3) ?_
      refine v_ile rfl (fun _ => ?_) (fun h => absurd h (by omega))
      refine v_load rfl rfl ⟨rfl, Nat.le_of_ble_eq_true rfl⟩ ?_
      refine v_getx rfl rfl (h4) ?_
      refine v_load rfl rfl ⟨rfl, Nat.le_of_ble_eq_true rfl⟩ ?_
      refine v_load rfl rfl ⟨rfl, Nat.le_of_ble_eq_true rfl⟩ ?_
      refine v_sub rfl (by omega) ?_
      refine v_sub rfl (by omega) ?_
      refine v_load rfl rfl ⟨rfl, Nat.le_of_ble_eq_true rfl⟩ ?_
      refine v_add rfl (by omega) ?_
      refine v_push rfl ?_
      refine v_ile rfl (fun h => absurd h (by omega)) (fun _ => ?_)
      refine v_push rfl ?_
      refine v_ret rfl rfl ?_
      exact k M hC z_oR_rf
  · rw [if_neg c] at k
    refine v_load rfl rfl ⟨rfl, Nat.le_of_ble_eq_true rfl⟩ ?_
    refine v_iflt rfl (fun c12 => ?_) (fun c12 => ?_)
    · refine v_push rfl ?_
      refine v_ret rfl rfl ?_
      first | exact k M hC z_oR_rf | (exfalso; omega)
    · refine v_load rfl rfl ⟨rfl, Nat.le_of_ble_eq_true rfl⟩ ?_
      refine v_load rfl rfl ⟨rfl, Nat.le_of_ble_eq_true rfl⟩ ?_
      refine v_igt rfl (fun c13 => ?_) (fun c13 => ?_)
      · refine v_push rfl ?_
        refine v_ret rfl rfl ?_
        first | exact k M hC z_oR_rf | (exfalso; omega)
      · refine v_load rfl rfl ⟨rfl, Nat.le_of_ble_eq_true rfl⟩ ?_
        refine v_load rfl rfl ⟨rfl, Nat.le_of_ble_eq_true rfl⟩ ?_
        refine v_getx rfl rfl h4 ?_
        refine v_igt rfl (fun c14 => ?_) (fun c14 => ?_)
        · refine v_push rfl ?_
          refine v_ret rfl rfl ?_
          first | exact k M hC z_oR_rf | (exfalso; omega)
        · refine v_load rfl rfl ⟨rfl, Nat.le_of_ble_eq_true rfl⟩ ?_
          refine v_iflt rfl (fun c15 => ?_) (fun c15 => ?_)
          · refine v_push rfl ?_
            refine v_ret rfl rfl ?_
            first | exact k M hC z_oR_rf | (exfalso; omega)
          · refine v_load rfl rfl ⟨rfl, Nat.le_of_ble_eq_true rfl⟩ ?_
            refine v_load rfl rfl ⟨rfl, Nat.le_of_ble_eq_true rfl⟩ ?_
            refine v_getx rfl rfl h3 ?_
            refine v_ile rfl (fun c16 => ?_) (fun c16 => ?_)
            · first | exact k M hC z_oR_rf | (exfalso; omega)
            · refine v_push rfl ?_
              refine v_ret rfl rfl ?_
              first | exact k M hC z_oR_rf | (exfalso; omega)
end A2
