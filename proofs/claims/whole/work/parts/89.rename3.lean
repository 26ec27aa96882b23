/-! ACTS: rename -/
def ltB (tp : List Int) (m : Int) : Bool := decide (1 ≤ m ∧ m ≤ (tp.length : Int)) && (List.range m.toNat).all (fun i => isLet (tb tp (i : Int)))
theorem ltB_iff {tp : List Int} {m : Int} : ltB tp m = true ↔ ltW tp m := by
  unfold ltB ltW
  rw [Bool.and_eq_true, decide_eq_true_eq, List.all_eq_true]
  constructor
  · rintro ⟨⟨a1, a2⟩, a3⟩
    exact ⟨a1, a2, fun i hi => a3 i (List.mem_range.mpr (by omega))⟩
  · rintro ⟨a1, a2, a3⟩
    exact ⟨⟨a1, a2⟩, fun i hi => a3 i (by have := List.mem_range.mp hi; omega)⟩
noncomputable def rnP (s : zA) (i m : Int) : List zPc := TL s.1.1 (nd (NT (toks s.1.1)) i).2.2.2.2.2.1 (s.1.2.take m.toNat) (toks s.1.1).length
noncomputable def renameS (s : zA) (i m : Int) : zA × Int := if (nd (NT (toks s.1.1)) i).1 = 12 ∧ ltB s.1.2 m = true then (if ((mgT s.1.1 (rnP s i m)).length : Int) ≤ 300 then (if key s.1.2 0 m ≠ 0 ∨ wrd s.1.1 (nd (NT (toks s.1.1)) i).2.2.2.2.2.1 = s.1.2.take m.toNat then (s, -3) else (edS (tpS s []) (mgT s.1.1 (rnP s i m)) (mgA (rnP s i m)) (mgF s.1.1 (rnP s i m)).2, ((TI s.1.1 (nd (NT (toks s.1.1)) i).2.2.2.2.2.1 (toks s.1.1).length).length : Int))) else (s, -2)) else (s, -1)
theorem TL_end {t w : List Int} {q : Int} : ∀ n : Nat, TI t q n ≠ [] → (mgF t (TL t q w n)).2 = (tk (toks t) (ltI (TI t q n))).2.2.1
  | 0, h => absurd rfl h
  | n + 1, h => by
    by_cases c : usT t q n = true
    · rw [TL_y c, TI_y c, ltI_snoc, mgF_snoc]
      split <;> rfl
    · rw [TL_n c, TI_n c] at *
      exact TL_end n h
theorem TL_beg {t w : List Int} {q : Int} {n : Nat} (h : TI t q n ≠ []) : mgA (TL t q w n) = (tk (toks t) (hdI (TI t q n))).2.1 := by
  unfold TL
  rw [mgA_map h]
  have := (hdI_nn h).1
  show (tk (toks t) (((hdI (TI t q n)).toNat : Nat) : Int)).2.1 = _
  rw [show (((hdI (TI t q n)).toNat : Nat) : Int) = hdI (TI t q n) by omega]
theorem nam_i {t : List Int} {i : Int} (h : (nd (NT (toks t)) i).1 = 12) : (0 < i ∧ i < ((NT (toks t)).length : Int)) ∧ (nd (NT (toks t)) i).2.2.1 = 0 ∧ (nd (NT (toks t)) i).2.2.2.2.2.2.1 = 1 ∧ 0 ≤ (nd (NT (toks t)) i).2.2.2.2.2.1 ∧ (nd (NT (toks t)) i).2.2.2.2.2.1 < ((toks t).length : Int) := by
  have h0 : 0 ≤ i := by
    by_cases c : 0 ≤ i
    · exact c
    · rw [nd_out (by omega), show n0.1 = -1 from rfl] at h; omega
  have := nam (t := t) (j := i.toNat) (by rw [show ((i.toNat : Nat) : Int) = i by omega]; exact h)
  rw [show ((i.toNat : Nat) : Int) = i by omega] at this
  exact ⟨⟨this.1.1, by omega⟩, this.2.1, this.2.2.2.1, this.2.2.2.2.1, this.2.2.2.2.2.1⟩
theorem TI_ne {t : List Int} {i : Int} (h : (nd (NT (toks t)) i).1 = 12) : TI t (nd (NT (toks t)) i).2.2.2.2.2.1 (toks t).length ≠ [] := by
  obtain ⟨h1, h2, h3, h4, h5⟩ := nam_i h
  have : (nd (NT (toks t)) i).2.2.2.2.2.1.toNat ∈ TI t (nd (NT (toks t)) i).2.2.2.2.2.1 (toks t).length := by
    refine flt_mem.mpr ⟨by omega, decide_eq_true ?_⟩
    rw [show (((nd (NT (toks t)) i).2.2.2.2.2.1.toNat : Nat) : Int) = (nd (NT (toks t)) i).2.2.2.2.2.1 by omega, lf_of ⟨by omega, by omega⟩ h2 h3]
    exact ⟨h, rfl⟩
  intro e
  rw [e] at this
  exact absurd this List.not_mem_nil
section RN2
variable {L d n : Nat} {M : zM} {Q : Option zV → zM → Prop} {s : zA} {t tp : List Int}
theorem TL_by {w : List Int} {q : Int} {n : Nat} (h : z_by w) : ∀ p ∈ TL t q w n, z_by p.2.2 := by
  intro p hp
  obtain ⟨i, hi, rfl⟩ := List.mem_map.mp hp
  exact h
theorem S_rename {i m : Int} (hC : CS s M) (hB : BS s n) (hn : n ≤ 600) (k : ∀ M', CS (renameS s i m).1 M' → z_oR 1 76 M M' → Q (some (0, (renameS s i m).2)) M') : v_call L (d + 102) 123 [(2, 1), (0, i), (0, m)] M Q := by
  obtain ⟨h1, ⟨z4, h2⟩, -, -, h5, h6, -⟩ := id hC
  have hl := hB.1
  have hlt := h2.2.1
  have hby := hB.2.2.1
  have hbt := hB.2.2.2.1
  unfold renameS at k
  refine v_in ?_
  by_cases c1 : (nd (NT (toks s.1.1)) i).1 = 12
  · letI hdec : Decidable (ltW s.1.2 m) := decidable_of_iff _ ltB_iff
    by_cases c2 : ltW s.1.2 m
    · rw [if_pos ⟨c1, ltB_iff.mpr c2⟩] at k
      have hm : 1 ≤ m ∧ m ≤ (s.1.2.length : Int) := ⟨c2.1, c2.2.1⟩
      have hbe : z_by (mgT s.1.1 (rnP s i m)) := mgT_by hby (TL_by (z_by_take hbt))
      by_cases cc : ((mgT s.1.1 (rnP s i m)).length : Int) ≤ 300
      · rw [if_pos cc] at k
        by_cases ck : key s.1.2 0 m = 0
        · by_cases cw : wrd s.1.1 (nd (NT (toks s.1.1)) i).2.2.2.2.2.1 = s.1.2.take m.toNat
          · rw [if_pos (Or.inr cw)] at k
            refine v_load rfl rfl ⟨rfl, Nat.le_of_ble_eq_true rfl⟩ ?_
            refine v_getp rfl rfl rfl ?_
            refine v_load rfl rfl ⟨rfl, Nat.le_of_ble_eq_true rfl⟩ ?_
            refine v_push rfl ?_
            refine v_callr rfl ⟨Nat.le_of_ble_eq_true rfl, Nat.le_of_ble_eq_true rfl, rfl, Nat.le_of_ble_eq_true rfl, rfl⟩ ?_
            refine S_ndIsOf h6.1 (by decide) ?_
            rw [b2i_t (decide_eq_true c1)]
            refine v_ifeq rfl (fun h => absurd h (by decide)) (fun _ => ?_)
            refine v_load rfl rfl ⟨rfl, Nat.le_of_ble_eq_true rfl⟩ ?_
            refine v_load rfl rfl ⟨rfl, Nat.le_of_ble_eq_true rfl⟩ ?_
            refine v_callr rfl ⟨Nat.le_of_ble_eq_true rfl, Nat.le_of_ble_eq_true rfl, rfl, Nat.le_of_ble_eq_true rfl, rfl⟩ ?_
            refine S_tapeLet h2 ?_
            rw [if_pos c2]
            refine v_ifne rfl (fun _ => ?_) (fun h => absurd h (by decide))
            refine v_load rfl rfl ⟨rfl, Nat.le_of_ble_eq_true rfl⟩ ?_
            refine v_getp rfl rfl rfl ?_
            refine v_load rfl rfl ⟨rfl, Nat.le_of_ble_eq_true rfl⟩ ?_
            refine v_callr rfl ⟨Nat.le_of_ble_eq_true rfl, Nat.le_of_ble_eq_true rfl, rfl, Nat.le_of_ble_eq_true rfl, rfl⟩ ?_
            refine S_ndFrom h6.1 ?_
            refine v_store rfl ⟨rfl, Nat.le_of_ble_eq_true rfl, Nat.le_of_ble_eq_true rfl, rfl⟩ rfl ?_
            refine v_load rfl rfl ⟨rfl, Nat.le_of_ble_eq_true rfl⟩ ?_
            refine v_load rfl rfl ⟨rfl, Nat.le_of_ble_eq_true rfl⟩ ?_
            refine v_load rfl rfl ⟨rfl, Nat.le_of_ble_eq_true rfl⟩ ?_
            refine v_callr rfl ⟨Nat.le_of_ble_eq_true rfl, Nat.le_of_ble_eq_true rfl, rfl, Nat.le_of_ble_eq_true rfl, rfl⟩ ?_
            refine S_draftRen h1 h2 h5 h6 hl hm (fun M1 d1 o1 => ?_)
            refine v_store rfl ⟨rfl, Nat.le_of_ble_eq_true rfl, Nat.le_of_ble_eq_true rfl, rfl⟩ rfl ?_
            refine v_load rfl rfl ⟨rfl, Nat.le_of_ble_eq_true rfl⟩ ?_
            refine v_getp rfl rfl rfl ?_
            refine v_callr rfl ⟨Nat.le_of_ble_eq_true rfl, Nat.le_of_ble_eq_true rfl, rfl, Nat.le_of_ble_eq_true rfl, rfl⟩ ?_
            refine S_dSpill d1 hbe ?_
            rw [show (mgT s.1.1 (TL s.1.1 (nd (NT (toks s.1.1)) i).2.2.2.2.2.1 (s.1.2.take m.toNat) (toks s.1.1).length)) = mgT s.1.1 (rnP s i m) from rfl, if_pos cc]
            refine v_ifeq rfl (fun _ => ?_) (fun h => absurd h (by decide))
            have w1 := BV_oR h2 o1 (by decide)
            refine v_load rfl rfl ⟨rfl, Nat.le_of_ble_eq_true rfl⟩ ?_
            refine v_getp rfl rfl rfl ?_
            refine v_push rfl ?_
            refine v_load rfl rfl ⟨rfl, Nat.le_of_ble_eq_true rfl⟩ ?_
            refine v_callr rfl ⟨Nat.le_of_ble_eq_true rfl, Nat.le_of_ble_eq_true rfl, rfl, Nat.le_of_ble_eq_true rfl, rfl⟩ ?_
            refine S_keyword z_B4 w1 ⟨by decide, by decide, by omega, by omega⟩ ?_
            refine v_ifne rfl (fun h => absurd h (fun z => z ck)) (fun _ => ?_)
            refine v_load rfl rfl ⟨rfl, Nat.le_of_ble_eq_true rfl⟩ ?_
            refine v_getp rfl rfl rfl ?_
            refine v_load rfl rfl ⟨rfl, Nat.le_of_ble_eq_true rfl⟩ ?_
            refine v_load rfl rfl ⟨rfl, Nat.le_of_ble_eq_true rfl⟩ ?_
            refine v_getp rfl rfl rfl ?_
            refine v_load rfl rfl ⟨rfl, Nat.le_of_ble_eq_true rfl⟩ ?_
            refine v_callr rfl ⟨Nat.le_of_ble_eq_true rfl, Nat.le_of_ble_eq_true rfl, rfl, Nat.le_of_ble_eq_true rfl, rfl⟩ ?_
            refine S_isSpelled4 (BV_oR h1 o1 (by decide)) w1 (RT_oR h5 o1 (by decide)) hl ⟨by omega, by omega⟩ ?_
            rw [if_pos cw]
            refine v_ifeq rfl (fun h => absurd h (by decide)) (fun _ => ?_)
            refine v_push rfl ?_
            refine v_ret rfl rfl ?_
            exact k M1 (CS_draft hC o1 d1) (z_oR_w o1 (by decide) (by decide))
          · rw [if_neg (fun z => by rcases z with z | z; exact z ck; exact cw z)] at k
            have hne := TI_ne c1
            refine v_load rfl rfl ⟨rfl, Nat.le_of_ble_eq_true rfl⟩ ?_
            refine v_getp rfl rfl rfl ?_
            refine v_load rfl rfl ⟨rfl, Nat.le_of_ble_eq_true rfl⟩ ?_
            refine v_push rfl ?_
            refine v_callr rfl ⟨Nat.le_of_ble_eq_true rfl, Nat.le_of_ble_eq_true rfl, rfl, Nat.le_of_ble_eq_true rfl, rfl⟩ ?_
            refine S_ndIsOf h6.1 (by decide) ?_
            rw [b2i_t (decide_eq_true c1)]
            refine v_ifeq rfl (fun h => absurd h (by decide)) (fun _ => ?_)
            refine v_load rfl rfl ⟨rfl, Nat.le_of_ble_eq_true rfl⟩ ?_
            refine v_load rfl rfl ⟨rfl, Nat.le_of_ble_eq_true rfl⟩ ?_
            refine v_callr rfl ⟨Nat.le_of_ble_eq_true rfl, Nat.le_of_ble_eq_true rfl, rfl, Nat.le_of_ble_eq_true rfl, rfl⟩ ?_
            refine S_tapeLet h2 ?_
            rw [if_pos c2]
            refine v_ifne rfl (fun _ => ?_) (fun h => absurd h (by decide))
            refine v_load rfl rfl ⟨rfl, Nat.le_of_ble_eq_true rfl⟩ ?_
            refine v_getp rfl rfl rfl ?_
            refine v_load rfl rfl ⟨rfl, Nat.le_of_ble_eq_true rfl⟩ ?_
            refine v_callr rfl ⟨Nat.le_of_ble_eq_true rfl, Nat.le_of_ble_eq_true rfl, rfl, Nat.le_of_ble_eq_true rfl, rfl⟩ ?_
            refine S_ndFrom h6.1 ?_
            refine v_store rfl ⟨rfl, Nat.le_of_ble_eq_true rfl, Nat.le_of_ble_eq_true rfl, rfl⟩ rfl ?_
            refine v_load rfl rfl ⟨rfl, Nat.le_of_ble_eq_true rfl⟩ ?_
            refine v_load rfl rfl ⟨rfl, Nat.le_of_ble_eq_true rfl⟩ ?_
            refine v_load rfl rfl ⟨rfl, Nat.le_of_ble_eq_true rfl⟩ ?_
            refine v_callr rfl ⟨Nat.le_of_ble_eq_true rfl, Nat.le_of_ble_eq_true rfl, rfl, Nat.le_of_ble_eq_true rfl, rfl⟩ ?_
            refine S_draftRen h1 h2 h5 h6 hl hm (fun M1 d1 o1 => ?_)
            refine v_store rfl ⟨rfl, Nat.le_of_ble_eq_true rfl, Nat.le_of_ble_eq_true rfl, rfl⟩ rfl ?_
            refine v_load rfl rfl ⟨rfl, Nat.le_of_ble_eq_true rfl⟩ ?_
            refine v_getp rfl rfl rfl ?_
            refine v_callr rfl ⟨Nat.le_of_ble_eq_true rfl, Nat.le_of_ble_eq_true rfl, rfl, Nat.le_of_ble_eq_true rfl, rfl⟩ ?_
            refine S_dSpill d1 hbe ?_
            rw [show (mgT s.1.1 (TL s.1.1 (nd (NT (toks s.1.1)) i).2.2.2.2.2.1 (s.1.2.take m.toNat) (toks s.1.1).length)) = mgT s.1.1 (rnP s i m) from rfl, if_pos cc]
            refine v_ifeq rfl (fun _ => ?_) (fun h => absurd h (by decide))
            have w1 := BV_oR h2 o1 (by decide)
            have v1 : BV M1 2 s.1.1 0 := BV_oR h1 o1 (by decide)
            have q5 := RT_oR h5 o1 (by decide)
            have q6 := TN_oR h6 o1 (by decide)
            refine v_load rfl rfl ⟨rfl, Nat.le_of_ble_eq_true rfl⟩ ?_
            refine v_getp rfl rfl rfl ?_
            refine v_push rfl ?_
            refine v_load rfl rfl ⟨rfl, Nat.le_of_ble_eq_true rfl⟩ ?_
            refine v_callr rfl ⟨Nat.le_of_ble_eq_true rfl, Nat.le_of_ble_eq_true rfl, rfl, Nat.le_of_ble_eq_true rfl, rfl⟩ ?_
            refine S_keyword z_B4 w1 ⟨by decide, by decide, by omega, by omega⟩ ?_
            refine v_ifne rfl (fun h => absurd h (fun z => z ck)) (fun _ => ?_)
            refine v_load rfl rfl ⟨rfl, Nat.le_of_ble_eq_true rfl⟩ ?_
            refine v_getp rfl rfl rfl ?_
            refine v_load rfl rfl ⟨rfl, Nat.le_of_ble_eq_true rfl⟩ ?_
            refine v_load rfl rfl ⟨rfl, Nat.le_of_ble_eq_true rfl⟩ ?_
            refine v_getp rfl rfl rfl ?_
            refine v_load rfl rfl ⟨rfl, Nat.le_of_ble_eq_true rfl⟩ ?_
            refine v_callr rfl ⟨Nat.le_of_ble_eq_true rfl, Nat.le_of_ble_eq_true rfl, rfl, Nat.le_of_ble_eq_true rfl, rfl⟩ ?_
            refine S_isSpelled4 v1 w1 q5 hl ⟨by omega, by omega⟩ ?_
            rw [if_neg cw]
            refine v_ifeq rfl (fun _ => ?_) (fun h => absurd h (by decide))
            refine v_load rfl rfl ⟨rfl, Nat.le_of_ble_eq_true rfl⟩ ?_
            refine v_getp rfl rfl rfl ?_
            refine v_load rfl rfl ⟨rfl, Nat.le_of_ble_eq_true rfl⟩ ?_
            refine v_load rfl rfl ⟨rfl, Nat.le_of_ble_eq_true rfl⟩ ?_
            refine v_callr rfl ⟨Nat.le_of_ble_eq_true rfl, Nat.le_of_ble_eq_true rfl, rfl, Nat.le_of_ble_eq_true rfl, rfl⟩ ?_
            refine S_firstUse v1 q5 q6 hl ?_
            refine v_callr rfl ⟨Nat.le_of_ble_eq_true rfl, Nat.le_of_ble_eq_true rfl, rfl, Nat.le_of_ble_eq_true rfl, rfl⟩ ?_
            refine S_tkFirst q5 ?_
            refine v_store rfl ⟨rfl, Nat.le_of_ble_eq_true rfl, Nat.le_of_ble_eq_true rfl, rfl⟩ rfl ?_
            refine v_load rfl rfl ⟨rfl, Nat.le_of_ble_eq_true rfl⟩ ?_
            refine v_getp rfl rfl rfl ?_
            refine v_load rfl rfl ⟨rfl, Nat.le_of_ble_eq_true rfl⟩ ?_
            refine v_load rfl rfl ⟨rfl, Nat.le_of_ble_eq_true rfl⟩ ?_
            refine v_callr rfl ⟨Nat.le_of_ble_eq_true rfl, Nat.le_of_ble_eq_true rfl, rfl, Nat.le_of_ble_eq_true rfl, rfl⟩ ?_
            refine S_lastUse v1 q5 q6 hl ?_
            refine v_callr rfl ⟨Nat.le_of_ble_eq_true rfl, Nat.le_of_ble_eq_true rfl, rfl, Nat.le_of_ble_eq_true rfl, rfl⟩ ?_
            refine S_tkEnd q5 ?_
            refine v_store rfl ⟨rfl, Nat.le_of_ble_eq_true rfl, Nat.le_of_ble_eq_true rfl, rfl⟩ rfl ?_
            refine v_load rfl rfl ⟨rfl, Nat.le_of_ble_eq_true rfl⟩ ?_
            refine v_getp rfl rfl rfl ?_
            refine v_callr rfl ⟨Nat.le_of_ble_eq_true rfl, Nat.le_of_ble_eq_true rfl, rfl, Nat.le_of_ble_eq_true rfl, rfl⟩ ?_
            refine S_clear z_B4 (fun M2 v2 o2 => ?_)
            have o2' : z_oR 4 5 M1 M2 := fun b j hb => o2 b j (by omega) (by omega)
            have hC2 := CS_tape (CS_draft hC o1 d1) o2' v2
            have d2 : BV M2 6 (mgT s.1.1 (rnP s i m)) 0 := BV_oR (DRF_fit d1 hbe (show (mgT s.1.1 (rnP s i m)).length ≤ 300 by omega)) o2' (by decide)
            rw [← TL_beg (w := s.1.2.take m.toNat) hne, ← TL_end (w := s.1.2.take m.toNat) _ hne]
            refine v_load rfl rfl ⟨rfl, Nat.le_of_ble_eq_true rfl⟩ ?_
            refine v_load rfl rfl ⟨rfl, Nat.le_of_ble_eq_true rfl⟩ ?_
            refine v_load rfl rfl ⟨rfl, Nat.le_of_ble_eq_true rfl⟩ ?_
            refine v_callr rfl ⟨Nat.le_of_ble_eq_true rfl, Nat.le_of_ble_eq_true rfl, rfl, Nat.le_of_ble_eq_true rfl, rfl⟩ ?_
            refine S_settleS (s := tpS s []) (n := n) (a := mgA (rnP s i m)) (b := (mgF s.1.1 (rnP s i m)).2) hC2 (BS_tp hB (Nat.zero_le _) (fun x hx => absurd hx List.not_mem_nil)) hn d2 hbe (fun M3 c3 o3 => ?_)
            refine v_pop rfl (Or.inl rfl) ?_
            refine v_load rfl rfl ⟨rfl, Nat.le_of_ble_eq_true rfl⟩ ?_
            refine v_ret rfl rfl ?_
            exact k M3 c3 (z_oR_tr (z_oR_w o1 (by decide) (by decide)) (z_oR_tr (z_oR_w o2' (by decide) (by decide)) o3))
        · rw [if_pos (Or.inl ck)] at k
          refine v_load rfl rfl ⟨rfl, Nat.le_of_ble_eq_true rfl⟩ ?_
          refine v_getp rfl rfl rfl ?_
          refine v_load rfl rfl ⟨rfl, Nat.le_of_ble_eq_true rfl⟩ ?_
          refine v_push rfl ?_
          refine v_callr rfl ⟨Nat.le_of_ble_eq_true rfl, Nat.le_of_ble_eq_true rfl, rfl, Nat.le_of_ble_eq_true rfl, rfl⟩ ?_
          refine S_ndIsOf h6.1 (by decide) ?_
          rw [b2i_t (decide_eq_true c1)]
          refine v_ifeq rfl (fun h => absurd h (by decide)) (fun _ => ?_)
          refine v_load rfl rfl ⟨rfl, Nat.le_of_ble_eq_true rfl⟩ ?_
          refine v_load rfl rfl ⟨rfl, Nat.le_of_ble_eq_true rfl⟩ ?_
          refine v_callr rfl ⟨Nat.le_of_ble_eq_true rfl, Nat.le_of_ble_eq_true rfl, rfl, Nat.le_of_ble_eq_true rfl, rfl⟩ ?_
          refine S_tapeLet h2 ?_
          rw [if_pos c2]
          refine v_ifne rfl (fun _ => ?_) (fun h => absurd h (by decide))
          refine v_load rfl rfl ⟨rfl, Nat.le_of_ble_eq_true rfl⟩ ?_
          refine v_getp rfl rfl rfl ?_
          refine v_load rfl rfl ⟨rfl, Nat.le_of_ble_eq_true rfl⟩ ?_
          refine v_callr rfl ⟨Nat.le_of_ble_eq_true rfl, Nat.le_of_ble_eq_true rfl, rfl, Nat.le_of_ble_eq_true rfl, rfl⟩ ?_
          refine S_ndFrom h6.1 ?_
          refine v_store rfl ⟨rfl, Nat.le_of_ble_eq_true rfl, Nat.le_of_ble_eq_true rfl, rfl⟩ rfl ?_
          refine v_load rfl rfl ⟨rfl, Nat.le_of_ble_eq_true rfl⟩ ?_
          refine v_load rfl rfl ⟨rfl, Nat.le_of_ble_eq_true rfl⟩ ?_
          refine v_load rfl rfl ⟨rfl, Nat.le_of_ble_eq_true rfl⟩ ?_
          refine v_callr rfl ⟨Nat.le_of_ble_eq_true rfl, Nat.le_of_ble_eq_true rfl, rfl, Nat.le_of_ble_eq_true rfl, rfl⟩ ?_
          refine S_draftRen h1 h2 h5 h6 hl hm (fun M1 d1 o1 => ?_)
          refine v_store rfl ⟨rfl, Nat.le_of_ble_eq_true rfl, Nat.le_of_ble_eq_true rfl, rfl⟩ rfl ?_
          refine v_load rfl rfl ⟨rfl, Nat.le_of_ble_eq_true rfl⟩ ?_
          refine v_getp rfl rfl rfl ?_
          refine v_callr rfl ⟨Nat.le_of_ble_eq_true rfl, Nat.le_of_ble_eq_true rfl, rfl, Nat.le_of_ble_eq_true rfl, rfl⟩ ?_
          refine S_dSpill d1 hbe ?_
          rw [show (mgT s.1.1 (TL s.1.1 (nd (NT (toks s.1.1)) i).2.2.2.2.2.1 (s.1.2.take m.toNat) (toks s.1.1).length)) = mgT s.1.1 (rnP s i m) from rfl, if_pos cc]
          refine v_ifeq rfl (fun _ => ?_) (fun h => absurd h (by decide))
          have w1 := BV_oR h2 o1 (by decide)
          refine v_load rfl rfl ⟨rfl, Nat.le_of_ble_eq_true rfl⟩ ?_
          refine v_getp rfl rfl rfl ?_
          refine v_push rfl ?_
          refine v_load rfl rfl ⟨rfl, Nat.le_of_ble_eq_true rfl⟩ ?_
          refine v_callr rfl ⟨Nat.le_of_ble_eq_true rfl, Nat.le_of_ble_eq_true rfl, rfl, Nat.le_of_ble_eq_true rfl, rfl⟩ ?_
          refine S_keyword z_B4 w1 ⟨by decide, by decide, by omega, by omega⟩ ?_
          refine v_ifne rfl (fun _ => ?_) (fun h => absurd h (ck))
          refine v_push rfl ?_
          refine v_ret rfl rfl ?_
          exact k M1 (CS_draft hC o1 d1) (z_oR_w o1 (by decide) (by decide))
      · rw [if_neg cc] at k
        refine v_load rfl rfl ⟨rfl, Nat.le_of_ble_eq_true rfl⟩ ?_
        refine v_getp rfl rfl rfl ?_
        refine v_load rfl rfl ⟨rfl, Nat.le_of_ble_eq_true rfl⟩ ?_
        refine v_push rfl ?_
        refine v_callr rfl ⟨Nat.le_of_ble_eq_true rfl, Nat.le_of_ble_eq_true rfl, rfl, Nat.le_of_ble_eq_true rfl, rfl⟩ ?_
        refine S_ndIsOf h6.1 (by decide) ?_
        rw [b2i_t (decide_eq_true c1)]
        refine v_ifeq rfl (fun h => absurd h (by decide)) (fun _ => ?_)
        refine v_load rfl rfl ⟨rfl, Nat.le_of_ble_eq_true rfl⟩ ?_
        refine v_load rfl rfl ⟨rfl, Nat.le_of_ble_eq_true rfl⟩ ?_
        refine v_callr rfl ⟨Nat.le_of_ble_eq_true rfl, Nat.le_of_ble_eq_true rfl, rfl, Nat.le_of_ble_eq_true rfl, rfl⟩ ?_
        refine S_tapeLet h2 ?_
        rw [if_pos c2]
        refine v_ifne rfl (fun _ => ?_) (fun h => absurd h (by decide))
        refine v_load rfl rfl ⟨rfl, Nat.le_of_ble_eq_true rfl⟩ ?_
        refine v_getp rfl rfl rfl ?_
        refine v_load rfl rfl ⟨rfl, Nat.le_of_ble_eq_true rfl⟩ ?_
        refine v_callr rfl ⟨Nat.le_of_ble_eq_true rfl, Nat.le_of_ble_eq_true rfl, rfl, Nat.le_of_ble_eq_true rfl, rfl⟩ ?_
        refine S_ndFrom h6.1 ?_
        refine v_store rfl ⟨rfl, Nat.le_of_ble_eq_true rfl, Nat.le_of_ble_eq_true rfl, rfl⟩ rfl ?_
        refine v_load rfl rfl ⟨rfl, Nat.le_of_ble_eq_true rfl⟩ ?_
        refine v_load rfl rfl ⟨rfl, Nat.le_of_ble_eq_true rfl⟩ ?_
        refine v_load rfl rfl ⟨rfl, Nat.le_of_ble_eq_true rfl⟩ ?_
        refine v_callr rfl ⟨Nat.le_of_ble_eq_true rfl, Nat.le_of_ble_eq_true rfl, rfl, Nat.le_of_ble_eq_true rfl, rfl⟩ ?_
        refine S_draftRen h1 h2 h5 h6 hl hm (fun M1 d1 o1 => ?_)
        refine v_store rfl ⟨rfl, Nat.le_of_ble_eq_true rfl, Nat.le_of_ble_eq_true rfl, rfl⟩ rfl ?_
        refine v_load rfl rfl ⟨rfl, Nat.le_of_ble_eq_true rfl⟩ ?_
        refine v_getp rfl rfl rfl ?_
        refine v_callr rfl ⟨Nat.le_of_ble_eq_true rfl, Nat.le_of_ble_eq_true rfl, rfl, Nat.le_of_ble_eq_true rfl, rfl⟩ ?_
        refine S_dSpill d1 hbe ?_
        rw [show (mgT s.1.1 (TL s.1.1 (nd (NT (toks s.1.1)) i).2.2.2.2.2.1 (s.1.2.take m.toNat) (toks s.1.1).length)) = mgT s.1.1 (rnP s i m) from rfl, if_neg cc]
        refine v_ifeq rfl (fun h => absurd h (by decide)) (fun _ => ?_)
        refine v_push rfl ?_
        refine v_ret rfl rfl ?_
        exact k M1 (CS_draft hC o1 d1) (z_oR_w o1 (by decide) (by decide))
    · rw [if_neg (fun z => c2 (ltB_iff.mp z.2))] at k
      refine v_load rfl rfl ⟨rfl, Nat.le_of_ble_eq_true rfl⟩ ?_
      refine v_getp rfl rfl rfl ?_
      refine v_load rfl rfl ⟨rfl, Nat.le_of_ble_eq_true rfl⟩ ?_
      refine v_push rfl ?_
      refine v_callr rfl ⟨Nat.le_of_ble_eq_true rfl, Nat.le_of_ble_eq_true rfl, rfl, Nat.le_of_ble_eq_true rfl, rfl⟩ ?_
      refine S_ndIsOf h6.1 (by decide) ?_
      rw [b2i_t (decide_eq_true c1)]
      refine v_ifeq rfl (fun h => absurd h (by decide)) (fun _ => ?_)
      refine v_load rfl rfl ⟨rfl, Nat.le_of_ble_eq_true rfl⟩ ?_
      refine v_load rfl rfl ⟨rfl, Nat.le_of_ble_eq_true rfl⟩ ?_
      refine v_callr rfl ⟨Nat.le_of_ble_eq_true rfl, Nat.le_of_ble_eq_true rfl, rfl, Nat.le_of_ble_eq_true rfl, rfl⟩ ?_
      refine S_tapeLet h2 ?_
      rw [if_neg c2]
      refine v_ifne rfl (fun h => absurd h (by decide)) (fun _ => ?_)
      refine v_push rfl ?_
      refine v_ret rfl rfl ?_
      exact k M hC z_oR_rf
  · rw [if_neg (fun z => c1 z.1)] at k
    refine v_load rfl rfl ⟨rfl, Nat.le_of_ble_eq_true rfl⟩ ?_
    refine v_getp rfl rfl rfl ?_
    refine v_load rfl rfl ⟨rfl, Nat.le_of_ble_eq_true rfl⟩ ?_
    refine v_push rfl ?_
    refine v_callr rfl ⟨Nat.le_of_ble_eq_true rfl, Nat.le_of_ble_eq_true rfl, rfl, Nat.le_of_ble_eq_true rfl, rfl⟩ ?_
    refine S_ndIsOf h6.1 (by decide) ?_
    rw [b2i_f (by simpa using c1)]
    refine v_ifeq rfl (fun _ => ?_) (fun h => absurd h (by decide))
    refine v_push rfl ?_
    refine v_ret rfl rfl ?_
    exact k M hC z_oR_rf
end RN2
