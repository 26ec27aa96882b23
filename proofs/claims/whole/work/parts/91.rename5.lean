/-! ACTS: rename, the reference: the act -/
section RN4
variable {L d n : Nat} {M : zM} {Q : Option zV → zM → Prop} {s : zA} {t tp : List Int}
theorem R_rename {i m : Int} (hC : RS s M) (hB : BS s n) (hn : n ≤ 600) (hi : z_i32 i) (k : ∀ M', RS (renameS s i m).1 M' → z_oR 77 127 M M' → Q (some (0, (renameS s i m).2)) M') : v_call L (d + 12) 249 [(2, 77), (0, i), (0, m)] M Q := by
  have hS := hC.1
  have hP := hC.2.1
  have h4 := hS.1.1
  have h3 := hP.1
  have hl := hB.1
  have hlN := NT_1216 hS
  have hlp := hP.2.1
  unfold renameS at k
  refine v_in ?_
  by_cases c1 : (nd (NT (toks s.1.1)) i).1 = 12
  · by_cases c2 : ltB s.1.2 m = true
    · rw [if_pos ⟨c1, c2⟩] at k
      have hm : 1 ≤ m ∧ m ≤ (s.1.2.length : Int) := ⟨(ltB_iff.mp c2).1, (ltB_iff.mp c2).2.1⟩
      obtain ⟨⟨n1, n2⟩, n3, n4, n5, n6⟩ := nam_i c1
      have g6 := (TM_nd hS (i := i) ⟨by omega, by omega⟩).2.2.2.2.2.1
      rw [if_pos (by omega)] at g6
      have g3 := (RR_at hS.2.1 (i := (nd (NT (toks s.1.1)) i).2.2.2.2.2.1) ⟨n5, n6⟩).2.2.1
      have hlt : (toks s.1.1).length ≤ 300 := hS.2.1.2.1
      have r := tk_rng (t := s.1.1) (nd (NT (toks s.1.1)) i).2.2.2.2.2.1
      have hwl : (((s.1.2.take m.toNat).length : Nat) : Int) = m := by rw [List.length_take]; omega
      have eNT : NL s.1.1 (nd (NT (toks s.1.1)) i).2.2.2.2.2.1 (s.1.2.take m.toNat) (NT (toks s.1.1)).length = rnP s i m := NL_TL
      have hok : okP (s.1.1.length : Int) 0 (rnP s i m) := TL_ok (Nat.le_refl _)
      have hml := mgT_len hok
      have hln := NL_ln (t := s.1.1) (w := s.1.2.take m.toNat) (q := (nd (NT (toks s.1.1)) i).2.2.2.2.2.1) (NT (toks s.1.1)).length
      rw [eNT, hwl, NI_len] at hln
      have hcn : (TI s.1.1 (nd (NT (toks s.1.1)) i).2.2.2.2.2.1 (toks s.1.1).length).length ≤ (toks s.1.1).length := flt_len _ _
      have hub : m * ((NT (toks s.1.1)).length : Int) ≤ 300 * 1216 := by
        have a1 : m * ((NT (toks s.1.1)).length : Int) ≤ 300 * ((NT (toks s.1.1)).length : Int) := Int.mul_le_mul_of_nonneg_right (by omega) (by omega)
        omega
      have hne := TI_ne c1
      have hrne : rnP s i m ≠ [] := fun z => hne (map_nil.mp z)
      -- the first part, to the place where it is seen whether the text fits
      have pre : (∀ w5 w6 w7 w8 : zV, v_wp L (d + 12) 249 63 [(2, 77), (0, i), (0, m), (0, (nd (NT (toks s.1.1)) i).2.2.2.2.2.1), (0, ((TI s.1.1 (nd (NT (toks s.1.1)) i).2.2.2.2.2.1 (toks s.1.1).length).length : Int)), w5, w6, w7, w8] [(0, (s.1.1.length : Int) + lnP (rnP s i m))] M Q) → v_wp L (d + 12) 249 0 (z_ent (z_ml 249) [(2, 77), (0, i), (0, m)]) [] M Q := by
        intro kk
        refine v_load rfl rfl ⟨rfl, Nat.le_of_ble_eq_true rfl⟩ ?_
        refine v_load rfl rfl ⟨rfl, Nat.le_of_ble_eq_true rfl⟩ ?_
        refine v_push rfl ?_
        refine v_callr rfl ⟨Nat.le_of_ble_eq_true rfl, Nat.le_of_ble_eq_true rfl, rfl, Nat.le_of_ble_eq_true rfl, rfl⟩ ?_
        refine R_isOf hS hi (by decide) ?_
        rw [b2i_t (decide_eq_true c1)]
        refine v_ifeq rfl (fun h => absurd h (by decide)) (fun _ => ?_)
        refine v_load rfl rfl ⟨rfl, Nat.le_of_ble_eq_true rfl⟩ ?_
        refine v_push rfl ?_
        refine v_ilt rfl (fun h => absurd h (by omega)) (fun _ => ?_)
        refine v_load rfl rfl ⟨rfl, Nat.le_of_ble_eq_true rfl⟩ ?_
        refine v_load rfl rfl ⟨rfl, Nat.le_of_ble_eq_true rfl⟩ ?_
        refine v_getx rfl rfl (h3) ?_
        refine v_igt rfl (fun h => absurd h (by omega)) (fun _ => ?_)
        refine v_load rfl rfl ⟨rfl, Nat.le_of_ble_eq_true rfl⟩ ?_
        refine v_load rfl rfl ⟨rfl, Nat.le_of_ble_eq_true rfl⟩ ?_
        refine v_callr rfl ⟨Nat.le_of_ble_eq_true rfl, Nat.le_of_ble_eq_true rfl, rfl, Nat.le_of_ble_eq_true rfl, rfl⟩ ?_
        refine R_isTapeWord hP hm ?_
        rw [b2i_t c2]
        refine v_ifne rfl (fun _ => ?_) (fun h => absurd h (by decide))
        refine v_load rfl rfl ⟨rfl, Nat.le_of_ble_eq_true rfl⟩ ?_
        refine v_getp rfl rfl rfl ?_
        refine v_load rfl rfl ⟨rfl, Nat.le_of_ble_eq_true rfl⟩ ?_
        refine v_ald9 rfl rfl ⟨by omega, by show _ < (1600 : Int); omega⟩ ?_
        rw [g6]
        refine v_store rfl ⟨rfl, Nat.le_of_ble_eq_true rfl, Nat.le_of_ble_eq_true rfl, rfl⟩ rfl ?_
        refine v_load rfl rfl ⟨rfl, Nat.le_of_ble_eq_true rfl⟩ ?_
        refine v_load rfl rfl ⟨rfl, Nat.le_of_ble_eq_true rfl⟩ ?_
        refine v_callr rfl ⟨Nat.le_of_ble_eq_true rfl, Nat.le_of_ble_eq_true rfl, rfl, Nat.le_of_ble_eq_true rfl, rfl⟩ ?_
        refine R_usesOf hS c1 ?_
        refine v_store rfl ⟨rfl, Nat.le_of_ble_eq_true rfl, Nat.le_of_ble_eq_true rfl, rfl⟩ rfl ?_
        refine v_load rfl rfl ⟨rfl, Nat.le_of_ble_eq_true rfl⟩ ?_
        refine v_getx rfl rfl (h4) ?_
        refine v_load rfl rfl ⟨rfl, Nat.le_of_ble_eq_true rfl⟩ ?_
        refine v_load rfl rfl ⟨rfl, Nat.le_of_ble_eq_true rfl⟩ ?_
        refine v_load rfl rfl ⟨rfl, Nat.le_of_ble_eq_true rfl⟩ ?_
        refine v_getp rfl rfl rfl ?_
        refine v_load rfl rfl ⟨rfl, Nat.le_of_ble_eq_true rfl⟩ ?_
        refine v_ald9 rfl rfl ⟨by omega, by show _ < (300 : Int); omega⟩ ?_
        rw [g3]
        refine v_sub rfl (by omega) ?_
        refine v_mul rfl (by rw [← hln.1]; omega) ?_
        rw [← hln.1]
        refine v_add rfl (by omega) ?_
        exact kk _ _ _ _
      refine pre (fun w5 w6 w7 w8 => ?_)
      by_cases cc : ((mgT s.1.1 (rnP s i m)).length : Int) ≤ 300
      · rw [if_pos cc] at k
        have kM : ∀ i, 0 ≤ i → i < (s.1.2.length : Int) → M 78 i = tb s.1.2 i := fun i h0 h1 => by
          have := hP.2.2 i.toNat (by omega)
          rw [show ((i.toNat : Nat) : Int) = i by omega] at this
          rw [this]; unfold tb; rw [if_pos ⟨h0, h1⟩]
        have kr : 0 ≤ key s.1.2 0 m := by unfold key; repeat' (first | decide | split)
        have kz : key s.1.2 0 (0 + m) = key s.1.2 0 m := by rw [Int.zero_add]
        by_cases ck : key s.1.2 0 m = 0
        · by_cases cw : wrd s.1.1 (nd (NT (toks s.1.1)) i).2.2.2.2.2.1 = s.1.2.take m.toNat
          · rw [if_pos (Or.inr cw)] at k
            refine v_push rfl ?_
            refine v_ile rfl (fun _ => ?_) (fun h => absurd h (by omega))
            refine v_load rfl rfl ⟨rfl, Nat.le_of_ble_eq_true rfl⟩ ?_
            refine v_getp rfl rfl rfl ?_
            refine v_push rfl ?_
            refine v_load rfl rfl ⟨rfl, Nat.le_of_ble_eq_true rfl⟩ ?_
            refine v_callr rfl ⟨Nat.le_of_ble_eq_true rfl, Nat.le_of_ble_eq_true rfl, rfl, Nat.le_of_ble_eq_true rfl, rfl⟩ ?_
            refine R_keyOf78 hlp kM ⟨by decide, by omega, by omega⟩ ?_
            rw [kz]
            refine v_ifgt rfl (fun h => absurd h (by omega)) (fun _ => ?_)
            refine v_load rfl rfl ⟨rfl, Nat.le_of_ble_eq_true rfl⟩ ?_
            refine v_load rfl rfl ⟨rfl, Nat.le_of_ble_eq_true rfl⟩ ?_
            refine v_load rfl rfl ⟨rfl, Nat.le_of_ble_eq_true rfl⟩ ?_
            refine v_callr rfl ⟨Nat.le_of_ble_eq_true rfl, Nat.le_of_ble_eq_true rfl, rfl, Nat.le_of_ble_eq_true rfl, rfl⟩ ?_
            refine R_isTapeLike hS.1 hP hS.2.1 ⟨n5, n6⟩ ⟨by omega, by omega⟩ ?_
            rw [if_pos cw]
            refine v_ifeq rfl (fun h => absurd h (by decide)) (fun _ => ?_)
            refine v_push rfl ?_
            refine v_ret rfl rfl ?_
            exact k M hC z_oR_rf
          · rw [if_neg (fun z => by rcases z with z | z; exact z ck; exact cw z)] at k
            have hA := mgA_rng (t := s.1.1) hrne hok
            have eT := mgT_ed (t := s.1.1) hrne
            have hel := edT_len (t := s.1.1) (fr := (mgF s.1.1 (rnP s i m)).1) (a := mgA (rnP s i m)) (b := (mgF s.1.1 (rnP s i m)).2) hA
            rw [← eT] at hel
            have f0 := RFr_0 (M := M)
            have hC1 := RS_oF hC f0.2
            refine v_push rfl ?_
            refine v_ile rfl (fun _ => ?_) (fun h => absurd h (by omega))
            refine v_load rfl rfl ⟨rfl, Nat.le_of_ble_eq_true rfl⟩ ?_
            refine v_getp rfl rfl rfl ?_
            refine v_push rfl ?_
            refine v_load rfl rfl ⟨rfl, Nat.le_of_ble_eq_true rfl⟩ ?_
            refine v_callr rfl ⟨Nat.le_of_ble_eq_true rfl, Nat.le_of_ble_eq_true rfl, rfl, Nat.le_of_ble_eq_true rfl, rfl⟩ ?_
            refine R_keyOf78 hlp kM ⟨by decide, by omega, by omega⟩ ?_
            rw [kz]
            refine v_ifgt rfl (fun h => absurd h (by omega)) (fun _ => ?_)
            refine v_load rfl rfl ⟨rfl, Nat.le_of_ble_eq_true rfl⟩ ?_
            refine v_load rfl rfl ⟨rfl, Nat.le_of_ble_eq_true rfl⟩ ?_
            refine v_load rfl rfl ⟨rfl, Nat.le_of_ble_eq_true rfl⟩ ?_
            refine v_callr rfl ⟨Nat.le_of_ble_eq_true rfl, Nat.le_of_ble_eq_true rfl, rfl, Nat.le_of_ble_eq_true rfl, rfl⟩ ?_
            refine R_isTapeLike hS.1 hP hS.2.1 ⟨n5, n6⟩ ⟨by omega, by omega⟩ ?_
            rw [if_neg cw]
            refine v_ifeq rfl (fun _ => ?_) (fun h => absurd h (by decide))
            refine v_push rfl ?_
            refine v_store rfl ⟨rfl, Nat.le_of_ble_eq_true rfl, Nat.le_of_ble_eq_true rfl, rfl⟩ rfl ?_
            refine v_push rfl ?_
            refine v_store rfl ⟨rfl, Nat.le_of_ble_eq_true rfl, Nat.le_of_ble_eq_true rfl, rfl⟩ rfl ?_
            refine v_load rfl rfl ⟨rfl, Nat.le_of_ble_eq_true rfl⟩ ?_
            refine v_push rfl ?_
            refine v_puti rfl rfl rfl ?_
            refine v_push rfl ?_
            refine v_store rfl ⟨rfl, Nat.le_of_ble_eq_true rfl, Nat.le_of_ble_eq_true rfl, rfl⟩ rfl ?_
            refine R_ren_loop (t := s.1.1) (tp := s.1.2) (z_upd M 77 5 0) hC1.1 hC1.2.1 c1 hm (by rw [eNT]; omega) (fun M2 f2 o2 v w => ?_) _ 0 _ _ rfl (Nat.zero_le _) f0.1 oF_rf
            rw [eNT] at f2 ⊢
            have o02 := oF_tr f0.2 o2
            have hC2 := RS_oF hC o02
            have o3 : ∀ b j, b ≠ 78 → (b = 77 → j ≠ 3) → z_upd M2 77 3 0 b j = M2 b j := fun b j _ b2 => upd1 rfl b j b2
            have hC3 : RS (tpS s []) (z_upd M2 77 3 0) := RS_tape hC2 o3 ⟨u_eq, Nat.zero_le _, fun i hi => absurd hi (Nat.not_lt_zero _)⟩
            rw [eT] at k
            refine v_load rfl rfl ⟨rfl, Nat.le_of_ble_eq_true rfl⟩ ?_
            refine v_push rfl ?_
            refine v_puti rfl rfl rfl ?_
            refine v_load rfl rfl ⟨rfl, Nat.le_of_ble_eq_true rfl⟩ ?_
            refine v_load rfl rfl ⟨rfl, Nat.le_of_ble_eq_true rfl⟩ ?_
            refine v_load rfl rfl ⟨rfl, Nat.le_of_ble_eq_true rfl⟩ ?_
            refine v_callr rfl ⟨Nat.le_of_ble_eq_true rfl, Nat.le_of_ble_eq_true rfl, rfl, Nat.le_of_ble_eq_true rfl, rfl⟩ ?_
            refine R_editsS (s := tpS s []) (fr := (mgF s.1.1 (rnP s i m)).1) (a := mgA (rnP s i m)) (b := (mgF s.1.1 (rnP s i m)).2) hC3 (BS_tp hB (Nat.zero_le _) (fun x hx => absurd hx List.not_mem_nil)) hn (RFr_fr f2 (u_n2 (by decide)) (fun j => u_n1 (by decide))) hA (by show (s.1.1.length : Int) + _ ≤ 300; omega) (fun M5 c5 e5 o5 => ?_)
            refine v_load rfl rfl ⟨rfl, Nat.le_of_ble_eq_true rfl⟩ ?_
            refine v_ret rfl rfl ?_
            exact k M5 c5 (z_oR_tr (oF_R o02) (z_oR_tr (z_oR_u (by decide)) o5))
        · rw [if_pos (Or.inl ck)] at k
          refine v_push rfl ?_
          refine v_ile rfl (fun _ => ?_) (fun h => absurd h (by omega))
          refine v_load rfl rfl ⟨rfl, Nat.le_of_ble_eq_true rfl⟩ ?_
          refine v_getp rfl rfl rfl ?_
          refine v_push rfl ?_
          refine v_load rfl rfl ⟨rfl, Nat.le_of_ble_eq_true rfl⟩ ?_
          refine v_callr rfl ⟨Nat.le_of_ble_eq_true rfl, Nat.le_of_ble_eq_true rfl, rfl, Nat.le_of_ble_eq_true rfl, rfl⟩ ?_
          refine R_keyOf78 hlp kM ⟨by decide, by omega, by omega⟩ ?_
          rw [kz]
          refine v_ifgt rfl (fun _ => ?_) (fun h => absurd h (by omega))
          refine v_push rfl ?_
          refine v_ret rfl rfl ?_
          exact k M hC z_oR_rf
      · rw [if_neg cc] at k
        refine v_push rfl ?_
        refine v_ile rfl (fun h => absurd h (by omega)) (fun _ => ?_)
        refine v_push rfl ?_
        refine v_ret rfl rfl ?_
        exact k M hC z_oR_rf
    · rw [if_neg (fun z => c2 z.2)] at k
      by_cases hm : 1 ≤ m ∧ m ≤ (s.1.2.length : Int)
      · refine v_load rfl rfl ⟨rfl, Nat.le_of_ble_eq_true rfl⟩ ?_
        refine v_load rfl rfl ⟨rfl, Nat.le_of_ble_eq_true rfl⟩ ?_
        refine v_push rfl ?_
        refine v_callr rfl ⟨Nat.le_of_ble_eq_true rfl, Nat.le_of_ble_eq_true rfl, rfl, Nat.le_of_ble_eq_true rfl, rfl⟩ ?_
        refine R_isOf hS hi (by decide) ?_
        rw [b2i_t (decide_eq_true c1)]
        refine v_ifeq rfl (fun h => absurd h (by decide)) (fun _ => ?_)
        refine v_load rfl rfl ⟨rfl, Nat.le_of_ble_eq_true rfl⟩ ?_
        refine v_push rfl ?_
        refine v_ilt rfl (fun h => absurd h (by omega)) (fun _ => ?_)
        refine v_load rfl rfl ⟨rfl, Nat.le_of_ble_eq_true rfl⟩ ?_
        refine v_load rfl rfl ⟨rfl, Nat.le_of_ble_eq_true rfl⟩ ?_
        refine v_getx rfl rfl (h3) ?_
        refine v_igt rfl (fun h => absurd h (by omega)) (fun _ => ?_)
        refine v_load rfl rfl ⟨rfl, Nat.le_of_ble_eq_true rfl⟩ ?_
        refine v_load rfl rfl ⟨rfl, Nat.le_of_ble_eq_true rfl⟩ ?_
        refine v_callr rfl ⟨Nat.le_of_ble_eq_true rfl, Nat.le_of_ble_eq_true rfl, rfl, Nat.le_of_ble_eq_true rfl, rfl⟩ ?_
        refine R_isTapeWord hP hm ?_
        rw [b2i_f c2]
        refine v_ifne rfl (fun h => absurd h (by decide)) (fun _ => ?_)
        refine v_push rfl ?_
        refine v_ret rfl rfl ?_
        exact k M hC z_oR_rf
      · have nw : v_wp L (d + 12) 249 10 (z_ent (z_ml 249) [(2, 77), (0, i), (0, m)]) [] M Q := by
          by_cases hm1 : m < 1
          · refine v_load rfl rfl ⟨rfl, Nat.le_of_ble_eq_true rfl⟩ ?_
            refine v_push rfl ?_
            refine v_ilt rfl (fun _ => ?_) (fun h => absurd h (by omega))
            refine v_push rfl ?_
            refine v_ret rfl rfl ?_
            exact k M hC z_oR_rf
          · refine v_load rfl rfl ⟨rfl, Nat.le_of_ble_eq_true rfl⟩ ?_
            refine v_push rfl ?_
            refine v_ilt rfl (fun h => absurd h (by omega)) (fun _ => ?_)
            refine v_load rfl rfl ⟨rfl, Nat.le_of_ble_eq_true rfl⟩ ?_
            refine v_load rfl rfl ⟨rfl, Nat.le_of_ble_eq_true rfl⟩ ?_
            refine v_getx rfl rfl (h3) ?_
            refine v_igt rfl (fun _ => ?_) (fun h => absurd h (by omega))
            refine v_push rfl ?_
            refine v_ret rfl rfl ?_
            exact k M hC z_oR_rf
        refine v_load rfl rfl ⟨rfl, Nat.le_of_ble_eq_true rfl⟩ ?_
        refine v_load rfl rfl ⟨rfl, Nat.le_of_ble_eq_true rfl⟩ ?_
        refine v_push rfl ?_
        refine v_callr rfl ⟨Nat.le_of_ble_eq_true rfl, Nat.le_of_ble_eq_true rfl, rfl, Nat.le_of_ble_eq_true rfl, rfl⟩ ?_
        refine R_isOf hS hi (by decide) ?_
        rw [b2i_t (decide_eq_true c1)]
        refine v_ifeq rfl (fun h => absurd h (by decide)) (fun _ => ?_)
        exact nw
  · rw [if_neg (fun z => c1 z.1)] at k
    refine v_load rfl rfl ⟨rfl, Nat.le_of_ble_eq_true rfl⟩ ?_
    refine v_load rfl rfl ⟨rfl, Nat.le_of_ble_eq_true rfl⟩ ?_
    refine v_push rfl ?_
    refine v_callr rfl ⟨Nat.le_of_ble_eq_true rfl, Nat.le_of_ble_eq_true rfl, rfl, Nat.le_of_ble_eq_true rfl, rfl⟩ ?_
    refine R_isOf hS hi (by decide) ?_
    rw [b2i_f (by simpa using c1)]
    refine v_ifeq rfl (fun _ => ?_) (fun h => absurd h (by decide))
    refine v_push rfl ?_
    refine v_ret rfl rfl ?_
    exact k M hC z_oR_rf
end RN4
