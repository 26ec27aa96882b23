/-! THE REFERENCE'S PARSE as a whole: method 215 -/
section RU
variable {L d : Nat} {M V : zM} {Q : Option zV → zM → Prop} {t : List Int} {h a op_ ne rl : Int}
theorem R_open57 {so : Int} (fr : Int) (hK : KS t h a op_ ne rl V M) (hh : h < 1216) (hl : isLf so = false ∧ so ≠ 17) (hf : so = 4 ∨ so = 0 → fr = a) (k : ∀ M' V', KS t (h + 1) a op_ ne rl V' M' → OPN h V V' h so fr 0 [] (h + 1) → V' 57 h = -1 → KB M M' → Q (some (0, h)) M') : v_call L d 188 [(2, 77), (0, so)] M Q := by
  have hK' := hK
  obtain ⟨-, ⟨p1, p2, p3, p4, p5⟩, hg, r1, r2, r3, r4⟩ := hK
  obtain ⟨m1, m2, m3, m4, m5, m6, m7, m8, m9, m10⟩ := mkM_at (M := M) (h := h) (so := so) (a := a)
  obtain ⟨e1, e2, e3, e4, e5, e6, e7, e8⟩ := gmk_at (V := V) (h := h) (so := so) (fr := fr) (up := a) (sg := 0)
  refine R_makes0 hK' hh (k _ (gmk V h so fr a 0) (KS_KB hK' mkM_KB m9 (m10.trans p2) (GV_new hg (fun b x b1 b2 hx => mkM_ne ⟨b1, b2⟩ hx) (fun b x _ _ hx => gmk_ne hx) ?_) ⟨by omega, by omega, by omega, by omega⟩) (gmk_OPN r1) e5 mkM_KB)
  unfold GN
  rw [e1, e2, e4, e5, e6, e7, e8, if_neg (by rw [hl.1]; decide), if_neg hl.2]
  refine ⟨m1, m2, m3, fun z => ?_, m5, m6, m7, m8⟩
  rw [m4]
  exact (hf (z.resolve_left hl.2)).symm
/-- what is changed by the parse -/
def oB (M M' : zM) : Prop := (∀ b j, b ≠ 77 → ¬ (85 ≤ b ∧ b ≤ 99) → M' b j = M b j) ∧ ∀ j, j ≠ 19 → ¬ (27 ≤ j ∧ j ≤ 31) → M' 77 j = M 77 j
theorem oB_tr {M M1 M2 : zM} (h : oB M M1) (h2 : oB M1 M2) : oB M M2 := ⟨fun b j a1 a2 => (h2.1 b j a1 a2).trans (h.1 b j a1 a2), fun j a1 a2 => (h2.2 j a1 a2).trans (h.2 j a1 a2)⟩
theorem oB_KF {op rl : Int} {M M' : zM} (h : KF op rl M M') : oB M M' := ⟨h.1, h.2.1⟩
theorem R_builds (hX : RX t M) (hR : RR (toks t) M) (k : ∀ M' V' I, RX t M' → RR (toks t) M' → M' 77 19 = ((topN (toks t)).length : Int) → GV V' M' ((topN (toks t)).length : Int) → tr V' 0 (topN (toks t)) I → (∀ i ∈ I, i < ((topN (toks t)).length : Int)) → V' 57 0 = -1 → V' 60 0 = -1 → oB M M' → Q none M') : v_call L (d + 9) 215 [(2, 77)] M Q := by
  have hT := tkOK_toks t
  have hTl := hR.2.1
  obtain ⟨⟨f, hf⟩, hcv, hit, hbl⟩ := itemsOf_ok hT
  have hlt : (topN (toks t)).length = (bal (itemsOf (toks t))).flatten.length + 1 := mkN_len
  have o0 : oB M (z_upd (z_upd (z_upd (z_upd (z_upd M 77 19 0) 77 27 0) 77 28 0) 77 29 0) 77 30 0) := ⟨fun b j a1 a2 => by simp (disch := assumption) only [u_n1], fun j a1 a2 => by simp (disch := omega) only [u_n2]⟩
  have hK0 : KS t 0 0 0 0 0 M (z_upd (z_upd (z_upd (z_upd (z_upd M 77 19 0) 77 27 0) 77 28 0) 77 29 0) 77 30 0) := by
    refine ⟨⟨⟨(o0.2 4 (by decide) (by decide)).trans hX.1, hX.2.1, fun i hi => (o0.1 79 i (by decide) (by decide)).trans (hX.2.2 i hi)⟩, ⟨(o0.2 10 (by decide) (by decide)).trans hR.1, hR.2.1, fun i hi => ?_⟩⟩, ?_, fun x x0 x1 => absurd x0 (by omega), by decide⟩
    · rw [o0.1 81 i (by decide) (by decide), o0.1 82 i (by decide) (by decide), o0.1 83 i (by decide) (by decide), o0.1 84 i (by decide) (by decide)]
      exact hR.2.2 i hi
    · simp (disch := decide) only [u_n2, u_eq, and_self]
  -- what is left when the draft of all is there
  have fin : ∀ (M2 V2 : zM) (ks : List zK) (h2 op2 ne2 rl2 : Int), KS t h2 ((toks t).length : Int) op2 ne2 rl2 V2 M2 → OPN 0 M V2 0 0 0 0 ks h2 → trs ks = bal (itemsOf (toks t)) → h2 = ((topN (toks t)).length : Int) → V2 57 0 = -1 → oB M M2 → Q none M2 := by
    intro M2 V2 ks h2 op2 ne2 rl2 k2 o2 t2 e2 v57 b2
    have r2 := g_shut (up := ((toks t).length : Int)) o2
    have k3 := KS_55 (x := 0) (up := ((toks t).length : Int)) k2
    have et : mkN 0 0 ((toks t).length : Int) 0 (trs ks) = topN (toks t) := by unfold topN; rw [t2]
    rw [et] at r2
    subst e2
    exact k M2 _ _ k3.1.1 k3.1.2 k3.2.1.1 k3.2.2.1 r2.1 (fun i hi => (r2.2.1 i hi).2) (by rw [u_n1 (by decide)]; exact v57) r2.2.2.2 b2
  refine v_in ?_
  refine v_load rfl rfl ⟨rfl, Nat.le_of_ble_eq_true rfl⟩ ?_
  refine v_push rfl ?_
  refine v_puti rfl rfl rfl ?_
  refine v_load rfl rfl ⟨rfl, Nat.le_of_ble_eq_true rfl⟩ ?_
  refine v_push rfl ?_
  refine v_puti rfl rfl rfl ?_
  refine v_load rfl rfl ⟨rfl, Nat.le_of_ble_eq_true rfl⟩ ?_
  refine v_push rfl ?_
  refine v_puti rfl rfl rfl ?_
  refine v_load rfl rfl ⟨rfl, Nat.le_of_ble_eq_true rfl⟩ ?_
  refine v_push rfl ?_
  refine v_puti rfl rfl rfl ?_
  refine v_load rfl rfl ⟨rfl, Nat.le_of_ble_eq_true rfl⟩ ?_
  refine v_push rfl ?_
  refine v_puti rfl rfl rfl ?_
  refine v_load rfl rfl ⟨rfl, Nat.le_of_ble_eq_true rfl⟩ ?_
  refine v_push rfl ?_
  refine v_callr rfl ⟨Nat.le_of_ble_eq_true rfl, Nat.le_of_ble_eq_true rfl, rfl, Nat.le_of_ble_eq_true rfl, rfl⟩ ?_
  refine R_open57 0 hK0 (by decide) ⟨rfl, by decide⟩ (fun _ => rfl) (fun M1 V1 k1 o1 v1 b1 => ?_)
  refine v_store rfl ⟨rfl, Nat.le_of_ble_eq_true rfl, Nat.le_of_ble_eq_true rfl, rfl⟩ rfl ?_
  refine v_load rfl rfl ⟨rfl, Nat.le_of_ble_eq_true rfl⟩ ?_
  refine v_push rfl ?_
  refine v_push rfl ?_
  refine v_callr rfl ⟨Nat.le_of_ble_eq_true rfl, Nat.le_of_ble_eq_true rfl, rfl, Nat.le_of_ble_eq_true rfl, rfl⟩ ?_
  refine R_pushes k1 ⟨by omega, by omega⟩ (fun M2 k2 fr2 b2 => ?_)
  have ob2 : oB M M2 := oB_tr o0 (oB_tr (oB_KF (op := 0) (rl := 0) (KF_KB b1)) (oB_KF (op := 0) (rl := 0) (KF_KP b2 (Int.le_refl _))))
  have hRI := ri_0 (rg_every L t f).2.2.2.2.2.2.2.2
  refine hRI 0 0 1 0 0 V1 M2 d Q [] (itemsOf (toks t)) ((toks t).length : Int) hf k2 (by decide) (by decide) (by decide) fr2.1 fr2.2.1 (Or.inl ⟨rfl, fr2.2.2.2⟩) (by omega) (by omega) (by decide) (by decide) (by decide) (fun M3 V3 e3 k3 fr3 x3 f3 => ?_) (fun M3 V3 x I τ e3 k3 r3 x3 f3 => ?_)
  · have ob3 := oB_tr ob2 (oB_KF f3)
    have p27 := k3.2.1.2.2.1
    unfold RLP
    have o3 : OPN 0 M V3 0 0 0 0 [] 1 := ⟨op_fr o1.1 (fun j hj b b1 b2 _ => fr3 b j (by omega) (fun _ => (o1.2.1 j hj).2)), o1.2.1, FR_tr o1.2.2 fr3 (by decide)⟩
    refine v_load rfl rfl ⟨rfl, Nat.le_of_ble_eq_true rfl⟩ ?_
    refine v_getx rfl rfl (p27) ?_
    refine v_ifle rfl (fun _ => ?_) (fun h => absurd h (by decide))
    refine v_load rfl rfl ⟨rfl, Nat.le_of_ble_eq_true rfl⟩ ?_
    refine v_getx rfl rfl (x3) ?_
    refine v_push rfl ?_
    refine v_ieq rfl (fun _ => ?_) (fun h => absurd h (fun z => z rfl))
    refine v_ret rfl rfl ?_
    exact fin M3 V3 [] 1 _ _ _ k3 o3 (by rw [e3]; rfl) (by rw [hlt, e3]; rfl) (by rw [fr3 57 0 (by decide) (fun _ => by decide)]; exact v1) ob3
  · have ob3 := oB_tr ob2 (oB_KF f3)
    have p27 := k3.2.1.2.2.1
    have fr3 := r3.2.2.1
    have hx := r3.2.1 x (tr_mem r3.1).1
    unfold RLP
    have o3 : op V3 0 0 0 0 [] := op_fr o1.1 (fun j hj b b1 b2 _ => fr3 b j (by omega) (fun _ => (o1.2.1 j hj).2))
    have hnd : ((0 : Int) :: (ids [] ++ I)).Nodup := List.nodup_cons.mpr ⟨fun hm => by have := r3.2.1 0 hm; omega, (tr_mem r3.1).2.2.1⟩
    have hin : ∀ i ∈ (0 : Int) :: (ids [] ++ I), 0 ≤ i ∧ i < 1 + (τ.length : Int) := by
      intro i hi
      rcases List.mem_cons.mp hi with rfl | hi
      · omega
      · have := r3.2.1 i hi; omega
    refine v_load rfl rfl ⟨rfl, Nat.le_of_ble_eq_true rfl⟩ ?_
    refine v_getx rfl rfl (p27) ?_
    refine v_ifle rfl (fun _ => ?_) (fun h => absurd h (by decide))
    refine v_load rfl rfl ⟨rfl, Nat.le_of_ble_eq_true rfl⟩ ?_
    refine v_getx rfl rfl (x3) ?_
    refine v_push rfl ?_
    refine v_ieq rfl (fun h => absurd h (by omega)) (fun _ => ?_)
    refine v_load rfl rfl ⟨rfl, Nat.le_of_ble_eq_true rfl⟩ ?_
    refine v_load rfl rfl ⟨rfl, Nat.le_of_ble_eq_true rfl⟩ ?_
    refine v_load rfl rfl ⟨rfl, Nat.le_of_ble_eq_true rfl⟩ ?_
    refine v_getx rfl rfl (x3) ?_
    refine v_callr rfl ⟨Nat.le_of_ble_eq_true rfl, Nat.le_of_ble_eq_true rfl, rfl, Nat.le_of_ble_eq_true rfl, rfl⟩ ?_
    refine R_addsG o3 r3.1 r3.2.2.2 hnd (fun i hi => (hin i hi).2) k3 (fun M4 k4 b4 => ?_)
    refine v_ret rfl rfl ?_
    refine fin M4 _ ([] ++ [(x, τ, I)]) _ _ _ _ k4 ⟨hg_op o3 r3.1 hnd, fun i hi => hin i (by rw [ids_snoc] at hi; exact hi), FR_tr (FR_tr o1.2.2 fr3 (by decide)) (hg_FR (Int.le_refl _) (by omega) (fun z => absurd rfl z)) (Int.le_refl _)⟩ (by rw [e3]; rfl) (by rw [hlt, e3]; simp; omega) ?_ (oB_tr ob3 (oB_KF (op := 0) (rl := 0) (KF_KB b4)))
    unfold hgV
    simp only [if_true]
    rw [u_n1 (by decide), u_n2 (by omega), u_n1 (by decide), u_n1 (by decide), fr3 57 0 (by decide) (fun _ => by decide)]
    exact v1
end RU
