section PB
variable {L d : Nat} {Q : Option zV → zM → Prop} {T : List zT} {M : zM} {h a lo : Int}
theorem S_ndClear (k : ∀ M', RN [] M' → z_oR 42 42 M M' → Q none M') : v_call L d 109 [(2, 42)] M Q := by
  refine v_in ?_
  refine v_load rfl rfl ⟨rfl, Nat.le_of_ble_eq_true rfl⟩ ?_
  refine v_push rfl ?_
  refine v_puti rfl rfl rfl ?_
  refine v_ret rfl rfl ?_
  refine k _ ⟨u_eq, Nat.zero_le _, fun i hi => absurd hi (Nat.not_lt_zero _)⟩ (fun b j hb => u_n1 (by omega))
theorem S_lay {root : Int} {τ : List zN} {I : List Int} (hP : PS T h a M) (ht : tr M root τ I) (h57 : M 57 root = -1) (h60 : M 60 root = -1) (hI : ∀ i ∈ I, i < h) (hb : ∀ ν ∈ τ, (0 ≤ ν.2.2.2.1 ∧ ν.2.2.2.1 ≤ 1000) ∧ (0 ≤ ν.2.2.2.2.1 ∧ ν.2.2.2.2.1 ≤ 1000)) (hl : τ.length ≤ 1216)
    (k : ∀ M', RN (lay (-1) 1 0 [τ].flatten) M' → LQ M M' → (∃ V : Int → Int, ∀ j, 0 ≤ j → j < 300 → M' 51 j = lfF (lay (-1) 1 0 [τ].flatten) (lay (-1) 1 0 [τ].flatten).length (V j) j) → Q none M') : v_call L (d + 5) 60 [(2, 52), (0, root)] M Q := by
  obtain ⟨so, fr, up, sg, cs, Ic, x0, e1, e2, e3, e4, hc, rfl, rfl, hnd⟩ := ht
  have hwc := fo_wf hc
  have hf : fo M (-1) root [mkN so fr up sg cs] (root :: (Ic ++ [])) := fo_cons x0 e1 e2 e3 e4 h57 (List.nodup_cons.mp hnd).1 hc (by rw [h60]; exact fo_nil)
  have hlen := fo_len hf
  rw [show [mkN so fr up sg cs].flatten = mkN so fr up sg cs by simp] at hlen
  refine v_in ?_
  refine v_load rfl rfl ⟨rfl, Nat.le_of_ble_eq_true rfl⟩ ?_
  refine v_getp rfl rfl rfl ?_
  refine v_callr rfl ⟨Nat.le_of_ble_eq_true rfl, Nat.le_of_ble_eq_true rfl, rfl, Nat.le_of_ble_eq_true rfl, rfl⟩ ?_
  refine S_ndClear (fun M1 hR1 ho1 => ?_)
  refine v_load rfl rfl ⟨rfl, Nat.le_of_ble_eq_true rfl⟩ ?_
  refine v_store rfl ⟨rfl, Nat.le_of_ble_eq_true rfl, Nat.le_of_ble_eq_true rfl, rfl⟩ rfl ?_
  refine v_push rfl ?_
  refine v_store rfl ⟨rfl, Nat.le_of_ble_eq_true rfl, Nat.le_of_ble_eq_true rfl, rfl⟩ rfl ?_
  have hq1 : LQ M M1 := fun b j hb _ => ho1 b j (by omega)
  refine lay_fo (root := root) (h := h) (a := a) (T := T) (M0 := M) (d := d + 1) hP hf (by simp) ?_ ?_ ?_ M1 [] (-1) 1 0 (-1) hq1 hR1 ?_ rfl (by decide) (by decide) (by decide) ?_ ⟨fun z => absurd z.1 (by decide), rfl⟩ ?_ ?_ _
  · intro hm
    have := fo_pos hf _ hm
    omega
  · intro i hi
    exact hI i (by simpa using hi)
  · intro ν hν
    exact hb ν (by simpa using hν)
  · rw [if_neg (fun z => absurd z.1 (by decide))]
  · simp only [List.length_nil, Nat.zero_add]; omega
  · omega
  · intro M2 w hq2 hR2 _
    have ela := lay_cons (-1) 1 0 so fr up sg cs []
    rw [show ([] : List (List zN)).flatten = [] from rfl, lay_nil, List.append_nil] at ela
    have lc : cs.flatten.length ≤ 1215 := by rw [mkN_len] at hl; omega
    have hR3 : RN (((so, -1, (cs.length : Int), (cs.flatten.length : Int) + 1, 1, fr, up - fr, sg) :: lay 0 2 1 cs.flatten).map q0) M2 := by
      have := hR2
      rw [List.nil_append, show ((([] : List zQ).length : Nat) : Int) = 0 from rfl, ela] at this
      exact this
    have fin : v_wp L (d + 5) 60 129 [(2, 52), (0, root), (0, -1), (0, ((([] : List zQ).length + (root :: (Ic ++ [])).length : Nat) : Int)), w] [] M2 Q := by
      refine v_load rfl rfl ⟨rfl, Nat.le_of_ble_eq_true rfl⟩ ?_
      refine v_getp rfl rfl rfl ?_
      refine v_callr rfl ⟨Nat.le_of_ble_eq_true rfl, Nat.le_of_ble_eq_true rfl, rfl, Nat.le_of_ble_eq_true rfl, rfl⟩ ?_
      refine S_finish hwc ⟨rfl, rfl⟩ lc hR3 (fun M3 hR4 ho3 hl3 => ?_)
      refine v_ret rfl rfl ?_
      rw [ela] at k
      exact k M3 hR4 (LQ_tr hq2 (fun b j hb _ => ho3 b j hb)) ⟨fun j => M2 51 j, hl3⟩
    refine v_load rfl rfl ⟨rfl, Nat.le_of_ble_eq_true rfl⟩ ?_
    refine v_push rfl ?_
    refine v_ige rfl (fun e0 => ?_) (fun e0 => ?_)
    · exact fin
    · refine v_load rfl rfl ⟨rfl, Nat.le_of_ble_eq_true rfl⟩ ?_
      refine v_load rfl rfl ⟨rfl, Nat.le_of_ble_eq_true rfl⟩ ?_
      refine v_callr rfl ⟨Nat.le_of_ble_eq_true rfl, Nat.le_of_ble_eq_true rfl, rfl, Nat.le_of_ble_eq_true rfl, rfl⟩ ?_
      refine S_heldN (PS_LQ hP hq2) (by show ¬ (0 ≤ (-1 : Int) ∧ _); omega) ?_
      refine v_ifeq rfl (fun _ => ?_) (fun h => absurd h (by decide))
      exact fin
theorem S_shutF {x : Int} (hP : PS T h a M) (hx : 0 ≤ x ∧ x < h) (k : PS T h a (z_upd M 55 x a) → Q (some (0, x)) (z_upd M 55 x a)) : v_call L (d + 1) 53 [(2, 52), (0, x)] M Q := by
  have hP' := hP
  obtain ⟨p1, p2, hRT, q1, q2, q3, q4⟩ := hP
  refine v_in ?_
  refine v_load rfl rfl ⟨rfl, Nat.le_of_ble_eq_true rfl⟩ ?_
  refine v_load rfl rfl ⟨rfl, Nat.le_of_ble_eq_true rfl⟩ ?_
  refine v_callr rfl ⟨Nat.le_of_ble_eq_true rfl, Nat.le_of_ble_eq_true rfl, rfl, Nat.le_of_ble_eq_true rfl, rfl⟩ ?_
  refine S_held hP' (by omega) ?_
  refine v_ifeq rfl (fun h => absurd h (by omega)) (fun _ => ?_)
  refine v_load rfl rfl ⟨rfl, Nat.le_of_ble_eq_true rfl⟩ ?_
  refine v_getp rfl rfl rfl ?_
  refine v_load rfl rfl ⟨rfl, Nat.le_of_ble_eq_true rfl⟩ ?_
  refine v_load rfl rfl ⟨rfl, Nat.le_of_ble_eq_true rfl⟩ ?_
  refine v_getx rfl rfl p2 ?_
  refine v_ast9 rfl rfl (by decide) ⟨by omega, by show _ < (1216 : Int); omega⟩ ?_
  refine v_load rfl rfl ⟨rfl, Nat.le_of_ble_eq_true rfl⟩ ?_
  refine v_ret rfl rfl ?_
  exact k (PS_upd hP' (by decide))
/-- the class's parse -/
theorem S_parse (hT : tkOK T) (hR : RT T M) (k : ∀ M', TN T M' → z_oR 42 61 M M' → Q none M') : v_call L (d + 100) 37 [(2, 52)] M Q := by
  have hTl := hR.2.1
  obtain ⟨⟨f, hf⟩, hcv, hit, hbl⟩ := itemsOf_ok hT
  obtain ⟨tcv, twf⟩ := top_cv hT
  have hGI : GI L T f := g_all hT (g_every hT L f).2.2.2.2.2.2.2.2
  have hP0 : PS T 0 0 (z_upd (z_upd M 52 11 0) 52 12 0) := ⟨by rw [u_n2 (by decide), u_eq], u_eq, RT_oR hR (lo := 52) (hi := 52) (fun b j hb => by rw [u_n1 (by omega), u_n1 (by omega)]) (by decide), by decide, by decide, by decide, by decide⟩
  have ho0 : z_oR 42 61 M (z_upd (z_upd M 52 11 0) 52 12 0) := fun b j hb => by rw [u_n1 (by omega), u_n1 (by omega)]
  -- what is left when the draft of all is there
  have fin : ∀ (M2 : zM) (I : List Int) (h2 : Int), PS T h2 (T.length : Int) M2 → tr M2 0 (topN T) I → (∀ i ∈ I, i < h2) → M2 57 0 = -1 → M2 60 0 = -1 → z_oR 42 61 M M2 → v_wp L (d + 100) 37 35 [(2, 52), (0, 0)] [] M2 Q := by
    intro M2 I h2 hP2 ht2 hI2 h57 h60 ho2
    have hNl := NT_len hT
    have hlt : (topN T).length = (bal (itemsOf T)).flatten.length + 1 := mkN_len
    refine v_load rfl rfl ⟨rfl, Nat.le_of_ble_eq_true rfl⟩ ?_
    refine v_load rfl rfl ⟨rfl, Nat.le_of_ble_eq_true rfl⟩ ?_
    refine v_callr rfl ⟨Nat.le_of_ble_eq_true rfl, Nat.le_of_ble_eq_true rfl, rfl, Nat.le_of_ble_eq_true rfl, rfl⟩ ?_
    refine S_lay (d := d + 94) hP2 ht2 h57 h60 hI2 ?_ (by omega) (fun M3 hR3 hq3 hl3 => ?_)
    · intro ν hν
      rcases List.mem_cons.mp hν with rfl | hν
      · exact ⟨⟨Int.le_refl _, by show (0 : Int) ≤ 1000; decide⟩, ⟨by show (0 : Int) ≤ (T.length : Int) - 0; omega, by show (T.length : Int) - 0 ≤ 1000; omega⟩⟩
      · have := cv_bd tcv ν hν
        exact ⟨⟨by omega, by omega⟩, ⟨by omega, by omega⟩⟩
    · refine v_ret rfl rfl ?_
      refine k M3 ⟨hR3, fun j j0 j1 => ?_⟩ (z_oR_tr ho2 (fun b j hb => hq3 b j (by omega) (by omega)))
      obtain ⟨V, hV⟩ := hl3
      rw [hV j j0 (by omega)]
      exact lfF_dflt _ _ _ (lf_ex hT j0 j1)
  refine v_in ?_
  refine v_load rfl rfl ⟨rfl, Nat.le_of_ble_eq_true rfl⟩ ?_
  refine v_push rfl ?_
  refine v_puti rfl rfl rfl ?_
  refine v_load rfl rfl ⟨rfl, Nat.le_of_ble_eq_true rfl⟩ ?_
  refine v_push rfl ?_
  refine v_puti rfl rfl rfl ?_
  refine v_load rfl rfl ⟨rfl, Nat.le_of_ble_eq_true rfl⟩ ?_
  refine v_push rfl ?_
  refine v_push rfl ?_
  refine v_push rfl ?_
  refine v_callr rfl ⟨Nat.le_of_ble_eq_true rfl, Nat.le_of_ble_eq_true rfl, rfl, Nat.le_of_ble_eq_true rfl, rfl⟩ ?_
  refine S_grow57 hP0 (by decide) (by decide) (fun M1 hP1 hO1 h57 => ?_)
  refine v_store rfl ⟨rfl, Nat.le_of_ble_eq_true rfl, Nat.le_of_ble_eq_true rfl, rfl⟩ rfl ?_
  refine v_load rfl rfl ⟨rfl, Nat.le_of_ble_eq_true rfl⟩ ?_
  refine v_load rfl rfl ⟨rfl, Nat.le_of_ble_eq_true rfl⟩ ?_
  refine v_load rfl rfl ⟨rfl, Nat.le_of_ble_eq_true rfl⟩ ?_
  refine v_push rfl ?_
  refine v_push rfl ?_
  refine v_callr rfl ⟨Nat.le_of_ble_eq_true rfl, Nat.le_of_ble_eq_true rfl, rfl, Nat.le_of_ble_eq_true rfl, rfl⟩ ?_
  have o1 : z_oR 42 61 M M1 := z_oR_tr ho0 (fun b j hb => hO1.2.2 b j (by omega) (fun z => absurd z (by omega)))
  refine hGI 0 0 1 M1 _ _ [] (itemsOf T) (T.length : Int) 0 hf (Or.inl ⟨rfl, rfl⟩) hP1 (by omega) (by omega) (by decide) (by decide) (by omega) (fun M2 hb hP2 hF2 => ?_) (fun M2 x I τ hb hP2 hR2 => ?_)
  · have o2 : z_oR 42 61 M M2 := z_oR_tr o1 (fun b j hb => hF2 b j (by omega) (fun z => absurd z (by omega)))
    have x57 : M2 57 0 = -1 := by rw [hF2 57 0 (by decide) (fun _ => by decide)]; exact h57
    have x60 : M2 60 0 = -1 := by rw [hF2 60 0 (by decide) (fun _ => by decide)]; exact hO1.1.2.2.2.2.2.2.2.2.2
    refine v_callr rfl ⟨Nat.le_of_ble_eq_true rfl, Nat.le_of_ble_eq_true rfl, rfl, Nat.le_of_ble_eq_true rfl, rfl⟩ ?_
    refine S_hangN (h1 := 1) (d := d + 98) hO1 hP2 hF2 (by decide) (fun hP3 hO3 => ?_)
    refine v_load rfl rfl ⟨rfl, Nat.le_of_ble_eq_true rfl⟩ ?_
    refine v_load rfl rfl ⟨rfl, Nat.le_of_ble_eq_true rfl⟩ ?_
    refine v_callr rfl ⟨Nat.le_of_ble_eq_true rfl, Nat.le_of_ble_eq_true rfl, rfl, Nat.le_of_ble_eq_true rfl, rfl⟩ ?_
    refine S_shutF hP3 (by decide) (fun hP4 => ?_)
    refine v_pop rfl (Or.inl rfl) ?_
    have ho4 : op (z_upd M2 55 0 (T.length : Int)) 0 0 0 0 [] := op_fr hO3.1 (fun j hj b b1 b2 hbb => by
      have := List.mem_singleton.mp hj
      exact u_n1 (hbb this).1)
    have ht4 := op_tr ho4 (u_eq (x := (T.length : Int)))
    have et : mkN 0 0 (T.length : Int) 0 (trs []) = topN T := by unfold topN; rw [hb]; rfl
    rw [et] at ht4
    refine fin _ _ 1 hP4 ht4 (fun i hi => ?_) (by rw [u_n1 (by decide)]; exact x57) (by rw [u_n1 (by decide)]; exact x60) (z_oR_tr o2 (fun b j hb => u_n1 (by omega)))
    have := List.mem_singleton.mp hi
    omega
  · have hF2 := hR2.2.2.1
    have o2 : z_oR 42 61 M M2 := z_oR_tr o1 (fun b j hb => hF2 b j (by omega) (fun z => absurd z (by omega)))
    have x57 : M2 57 0 = -1 := by rw [hF2 57 0 (by decide) (fun _ => by decide)]; exact h57
    have ho2 : op M2 0 0 0 0 [] := op_fr hO1.1 (fun j hj b b1 b2 _ => hF2 b j (by omega) (fun _ => by
      have := List.mem_singleton.mp hj
      omega))
    have hx := hR2.2.1 x (tr_mem hR2.1).1
    have hnd : ((0 : Int) :: I).Nodup := List.nodup_cons.mpr ⟨fun hm => by have := hR2.2.1 0 hm; omega, (tr_mem hR2.1).2.2.1⟩
    refine v_callr rfl ⟨Nat.le_of_ble_eq_true rfl, Nat.le_of_ble_eq_true rfl, rfl, Nat.le_of_ble_eq_true rfl, rfl⟩ ?_
    refine S_hang0 (d := d + 98) ho2 hR2.1 hnd (by omega) (by omega) hP2 (fun M3 hP3 ho3 oo3 e57 => ?_)
    refine v_load rfl rfl ⟨rfl, Nat.le_of_ble_eq_true rfl⟩ ?_
    refine v_load rfl rfl ⟨rfl, Nat.le_of_ble_eq_true rfl⟩ ?_
    refine v_callr rfl ⟨Nat.le_of_ble_eq_true rfl, Nat.le_of_ble_eq_true rfl, rfl, Nat.le_of_ble_eq_true rfl, rfl⟩ ?_
    refine S_shutF (d := d + 98) hP3 (by omega) (fun hP4 => ?_)
    refine v_pop rfl (Or.inl rfl) ?_
    have ho4 : op (z_upd M3 55 0 (T.length : Int)) 0 0 0 0 [(x, τ, I)] := op_fr ho3 (fun j hj b b1 b2 hbb => by
      by_cases e : j = 0
      · exact u_n1 (hbb e).1
      · exact u_n2 e)
    have ht4 := op_tr ho4 (u_eq (x := (T.length : Int)))
    have et : mkN 0 0 (T.length : Int) 0 (trs [(x, τ, I)]) = topN T := by unfold topN; rw [hb]; rfl
    rw [et] at ht4
    refine fin _ _ _ hP4 ht4 (fun i hi => ?_) (by rw [u_n1 (by decide), e57]; exact x57) (by rw [u_n1 (by decide)]; exact ho3.2.2.2.2.2.2.2.2.2) (z_oR_tr o2 (z_oR_tr (fun b j hb => oo3 b j (by omega)) (fun b j hb => u_n1 (by omega))))
    rcases List.mem_cons.mp hi with rfl | hi
    · omega
    · have := hR2.2.1 i (by simpa [ids] using hi)
      omega
end PB
