/-! THE TWO SIDES' STATES; the class reads anew (methods 132, 133) -/
/-- the class: text, tape, acts, kept ones, shares -/
def CI (t tp : List Int) (Pa Fu : List (List Int)) (O : Nat → Int) (Kp : Nat → Bool) (Ls : Int → Int) (eK eN : Int) (M : zM) : Prop := BV M 2 t 0 ∧ (∃ s, BV M 4 tp s) ∧ (∃ l s, BV M 6 l s) ∧ HA Pa t Fu M ∧ RT (toks t) M ∧ TN (toks t) M ∧ KPC O Kp Ls (toks t).length (NT (toks t)).length M ∧ M 1 9 = eK ∧ M 1 10 = eN
/-- the reference -/
def RTp (tp : List Int) (M : zM) : Prop := M 77 3 = (tp.length : Int) ∧ tp.length ≤ 300 ∧ ∀ i : Nat, i < tp.length → M 78 (i : Int) = tp.getD i 0
def RJ (t tp : List Int) (Pa Fu : List (List Int)) (O : Nat → Int) (Kp : Nat → Bool) (Ls : Int → Int) (eK eN : Int) (M : zM) : Prop := RSt t M ∧ RTp tp M ∧ HRp Pa M ∧ HRf Fu M ∧ KPR O Kp Ls (toks t).length (NT (toks t)).length M ∧ M 77 67 = eK ∧ M 77 68 = eN
/-- what holds of both: bounds -/
def SB (t tp : List Int) (Pa Fu : List (List Int)) (eK eN : Int) (n : Nat) : Prop := t.length ≤ 300 ∧ tp.length ≤ 300 ∧ z_by t ∧ z_by tp ∧ Pa.length + Fu.length ≤ 12 ∧ (∀ x ∈ Pa, x.length ≤ 300 ∧ z_by x) ∧ (∀ x ∈ Fu, x.length ≤ 300 ∧ z_by x) ∧ 0 ≤ eK ∧ eK ≤ eN ∧ eN ≤ 1300 * (n : Int)
theorem KPC_oR {O : Nat → Int} {Kp : Nat → Bool} {Ls : Int → Int} {nT nN : Nat} {M M' : zM} {lo hi : Int} (h : KPC O Kp Ls nT nN M) (ho : z_oR lo hi M M') (hx : 74 < lo ∨ hi < 62) : KPC O Kp Ls nT nN M' := by
  obtain ⟨h1, h2, h3, h4, h5⟩ := h
  exact ⟨fun i hi => by rw [ho 71 _ (by omega)]; exact h1 i hi, fun i hi => by rw [ho 73 _ (by omega)]; exact h2 i hi, fun s s0 s1 => by rw [ho 74 _ (by omega)]; exact h3 s s0 s1, by rw [ho 62 16 (by omega)]; exact h4, by rw [ho 62 17 (by omega)]; exact h5⟩
theorem CI_oR {t tp : List Int} {Pa Fu : List (List Int)} {O : Nat → Int} {Kp : Nat → Bool} {Ls : Int → Int} {eK eN : Int} {M M' : zM} {lo hi : Int} (h : CI t tp Pa Fu O Kp Ls eK eN M) (ho : z_oR lo hi M M') (hx : 74 < lo) : CI t tp Pa Fu O Kp Ls eK eN M' := by
  obtain ⟨h1, ⟨s, h2⟩, ⟨l, s', h3⟩, h4, h5, h6, h7, h8, h9⟩ := h
  exact ⟨BV_oR h1 ho (by omega), ⟨s, BV_oR h2 ho (by omega)⟩, ⟨l, s', BV_oR h3 ho (by omega)⟩, HA_oR h4 ho (by omega), RT_oR h5 ho (by omega), TN_oR h6 ho (by omega), KPC_oR h7 ho (by omega), by rw [ho 1 9 (by omega)]; exact h8, by rw [ho 1 10 (by omega)]; exact h9⟩
theorem KPR_fr {O : Nat → Int} {Kp : Nat → Bool} {Ls : Int → Int} {nT nN : Nat} {M M' : zM} (h : KPR O Kp Ls nT nN M) (h1 : ∀ j, j = 61 ∨ j = 62 → M' 77 j = M 77 j) (h2 : ∀ b j, b = 114 ∨ b = 123 ∨ b = 124 → M' b j = M b j) : KPR O Kp Ls nT nN M' := by
  obtain ⟨k1, k2, k3, k4, k5⟩ := h
  exact ⟨fun i hi => by rw [h2 123 _ (by decide)]; exact k1 i hi, fun i hi => by rw [h2 124 _ (by decide)]; exact k2 i hi, fun s s0 s1 => by rw [h2 114 _ (by decide)]; exact k3 s s0 s1, by rw [h1 61 (by decide)]; exact k4, by rw [h1 62 (by decide)]; exact k5⟩
theorem RTp_fr {tp : List Int} {M M' : zM} (h : RTp tp M) (h1 : M' 77 3 = M 77 3) (h2 : ∀ j, M' 78 j = M 78 j) : RTp tp M' := ⟨h1.trans h.1, h.2.1, fun i hi => by rw [h2]; exact h.2.2 i hi⟩
theorem RJ_oR {t tp : List Int} {Pa Fu : List (List Int)} {O : Nat → Int} {Kp : Nat → Bool} {Ls : Int → Int} {eK eN : Int} {M M' : zM} {lo hi : Int} (h : RJ t tp Pa Fu O Kp Ls eK eN M) (ho : z_oR lo hi M M') (hx : hi < 77) : RJ t tp Pa Fu O Kp Ls eK eN M' := by
  obtain ⟨h1, h2, h3, h4, h5, h6, h7⟩ := h
  exact ⟨RSt_fr h1 (fun j _ => ho 77 j (by omega)) (fun b j hb => ho b j (by omega)), RTp_fr h2 (ho 77 3 (by omega)) (fun j => ho 78 j (by omega)), HRp_fr h3 (ho 77 65 (by omega)) (fun j => ho 125 j (by omega)), HRf_fr h4 (ho 77 66 (by omega)) (fun j => ho 126 j (by omega)), KPR_fr h5 (fun j _ => ho 77 j (by omega)) (fun b j hb => ho b j (by omega)), by rw [ho 77 67 (by omega)]; exact h6, by rw [ho 77 68 (by omega)]; exact h7⟩
/-- facts of a text's tokens and nodes, as the keeper wants them -/
theorem tk_f {t : List Int} (hl : t.length ≤ 300) : ∀ i : Nat, i < (toks t).length → 0 ≤ ((toks t).getD i t0).2.1 ∧ ((toks t).getD i t0).2.1 < 300 ∧ ((toks t).getD i t0).2.1 ≤ ((toks t).getD i t0).2.2.1 ∧ ((toks t).getD i t0).2.2.1 ≤ 300 := fun i hi => by
  have := (toks_at hi).1
  omega
theorem nt_f {t : List Int} (hl : t.length ≤ 300) : ∀ i : Nat, i < (NT (toks t)).length → 0 ≤ ((NT (toks t)).getD i n0).2.2.2.2.2.1 ∧ ((NT (toks t)).getD i n0).2.2.2.2.2.1 < 301 := fun i hi => by
  have := NT_bd (tkOK_toks t) hi
  have := toks_len t
  omega
theorem nt_s {t : List Int} : ∀ i : Nat, i < (NT (toks t)).length → 0 ≤ ((NT (toks t)).getD i n0).1 ∧ ((NT (toks t)).getD i n0).1 ≤ 17 := fun i hi => ⟨(NT_sort (tkOK_toks t) hi).1, (NT_sort (tkOK_toks t) hi).2.1⟩
theorem nt_l {t : List Int} (hl : t.length ≤ 300) : (NT (toks t)).length ≤ 1216 := by
  have := (NT_len (tkOK_toks t)).2
  have := toks_len t
  omega
theorem OC_oR {T0 : List zT} {N0 : List zQ} {M M' : zM} {lo hi : Int} (hOC : OC T0 N0 M) (ho : z_oR lo hi M M') (hx : hi < 62) : OC T0 N0 M' := by
  obtain ⟨c1, ⟨c2, c3⟩, c4, c5, c6⟩ := hOC
  refine ⟨by rw [ho 62 6 (by omega)]; exact c1, ⟨fun i hi => ?_, fun p p0 p1 => ?_⟩, by rw [ho 62 11 (by omega)]; exact c4, fun i hi => ?_, fun p p0 p1 => ?_⟩
  · rw [ho 63 _ (by omega), ho 64 _ (by omega), ho 65 _ (by omega)]; exact c2 i hi
  · rw [ho 66 _ (by omega)]; exact c3 p p0 p1
  · rw [ho 67 _ (by omega), ho 68 _ (by omega), ho 69 _ (by omega)]; exact c5 i hi
  · rw [ho 70 _ (by omega)]; exact c6 p p0 p1
section ST
variable {L d : Nat} {M : zM} {Q : Option zV → zM → Prop} {t t' tp : List Int} {Pa Fu : List (List Int)} {O : Nat → Int} {Kp : Nat → Bool} {Ls : Int → Int} {eK eN : Int}
theorem S_renew (hV : BV M 2 t' 0) (hl : t.length ≤ 300) (hR : RT (toks t) M) (hN : TN (toks t) M) (k : ∀ M', RT (toks t') M' → TN (toks t') M' → KPC oNo (fun _ => false) (fun s => mnS (NT (toks t)) s (NT (toks t)).length) (toks t').length (NT (toks t')).length M' → z_oR 36 74 M M' → Q none M') : v_call L (d + 101) 133 [(2, 1)] M Q := by
  have hl' := hV.2.1
  have hT' := tkOK_toks t'
  refine v_in ?_
  refine v_load rfl rfl ⟨rfl, Nat.le_of_ble_eq_true rfl⟩ ?_
  refine v_getp rfl rfl rfl ?_
  refine v_callr rfl ⟨Nat.le_of_ble_eq_true rfl, Nat.le_of_ble_eq_true rfl, rfl, Nat.le_of_ble_eq_true rfl, rfl⟩ ?_
  refine S_remember hR hN.1 (tk_f hl) (nt_f hl) (fun M1 c1 o1 => ?_)
  have o1' : z_oR 62 70 M M1 := fun b j hb => o1 b j (by omega) (by omega)
  refine v_load rfl rfl ⟨rfl, Nat.le_of_ble_eq_true rfl⟩ ?_
  refine v_getp rfl rfl rfl ?_
  refine v_callr rfl ⟨Nat.le_of_ble_eq_true rfl, Nat.le_of_ble_eq_true rfl, rfl, Nat.le_of_ble_eq_true rfl, rfl⟩ ?_
  refine S_scan (BV_oR hV o1' (by decide)) (fun M2 r2 o2 => ?_)
  refine v_load rfl rfl ⟨rfl, Nat.le_of_ble_eq_true rfl⟩ ?_
  refine v_getp rfl rfl rfl ?_
  refine v_callr rfl ⟨Nat.le_of_ble_eq_true rfl, Nat.le_of_ble_eq_true rfl, rfl, Nat.le_of_ble_eq_true rfl, rfl⟩ ?_
  refine S_parse hT' r2 (fun M3 n3 o3 => ?_)
  have o23 : z_oR 36 61 M1 M3 := z_oR_tr (z_oR_w o2 (by decide) (by decide)) (z_oR_w o3 (by decide) (by decide))
  have c3 : OC (toks t) (NT (toks t)) M3 := OC_oR c1 o23 (by decide)
  refine v_load rfl rfl ⟨rfl, Nat.le_of_ble_eq_true rfl⟩ ?_
  refine v_getp rfl rfl rfl ?_
  refine v_callr rfl ⟨Nat.le_of_ble_eq_true rfl, Nat.le_of_ble_eq_true rfl, rfl, Nat.le_of_ble_eq_true rfl, rfl⟩ ?_
  refine S_compareNothing c3 (nt_l hl) (RT_oR r2 o3 (by decide)) n3.1 (fun i hi => NT_bd hT' hi) nt_s nt_s (NT_mono (tkOK_toks t)) (fun M4 k4 o4 => ?_)
  refine v_ret rfl rfl ?_
  refine k M4 (RT_oR (RT_oR r2 o3 (by decide)) (oC_R o4) (by decide)) (TN_oR n3 (oC_R o4) (by decide)) k4 (fun b j hb => ?_)
  rw [oC_R o4 b j (by omega), o23 b j (by omega), o1' b j (by omega)]
/-- how many nodes an EDIT keeps -/
noncomputable def kpN (t t' : List Int) (a b : Int) : Int := cI (kpB (og (toks t) (toks t') a b ((t'.length : Int) - (t.length : Int))) (NT (toks t)) (NT (toks t'))) (NT (toks t')).length
theorem kpN_rng (t t' : List Int) (a b : Int) : 0 ≤ kpN t t' a b ∧ kpN t t' a b ≤ ((NT (toks t')).length : Int) := cI_nn _ _
theorem S_nodesKept {nT nN : Nat} (hK : KPC O Kp Ls nT nN M) (k : Q (some (0, cI Kp nN)) M) : v_call L d 21 [(2, 62)] M Q := by
  refine v_in ?_
  refine v_load rfl rfl ⟨rfl, Nat.le_of_ble_eq_true rfl⟩ ?_
  refine v_getx rfl rfl (hK.2.2.2.2) ?_
  refine v_ret rfl rfl ?_
  exact k
theorem S_settle {a b : Int} (hC : CI t tp Pa Fu O Kp Ls eK eN M) (hD : BV M 6 t' 0) (hl : t.length ≤ 300) (hby : z_by t') (hr : 0 ≤ eK ∧ eK ≤ 1000000 ∧ 0 ≤ eN ∧ eN ≤ 1000000)
    (k : ∀ M', CI t' tp (paA Pa t) [] (og (toks t) (toks t') a b ((t'.length : Int) - (t.length : Int))) (kpB (og (toks t) (toks t') a b ((t'.length : Int) - (t.length : Int))) (NT (toks t)) (NT (toks t'))) (fun s => lsS (og (toks t) (toks t') a b ((t'.length : Int) - (t.length : Int))) (NT (toks t)) (NT (toks t')) s (NT (toks t')).length) (eK + kpN t t' a b) (eN + ((NT (toks t')).length : Int)) M' → z_oR 1 76 M M' → Q (some (0, kpN t t' a b)) M') : v_call L (d + 101) 132 [(2, 1), (0, a), (0, b)] M Q := by
  obtain ⟨h1, ⟨s4, h2⟩, -, h4, h5, h6, h7, h8, h9⟩ := hC
  have hl' := hD.2.1
  have hT' := tkOK_toks t'
  have hkn := kpN_rng t t' a b
  have hnl := nt_l (t := t') hl'
  have hB6 : z_isB 6 := by unfold z_isB; decide
  refine v_in ?_
  refine v_load rfl rfl ⟨rfl, Nat.le_of_ble_eq_true rfl⟩ ?_
  refine v_getp rfl rfl rfl ?_
  refine v_callr rfl ⟨Nat.le_of_ble_eq_true rfl, Nat.le_of_ble_eq_true rfl, rfl, Nat.le_of_ble_eq_true rfl, rfl⟩ ?_
  refine S_sizeT hB6 hD ?_
  refine v_load rfl rfl ⟨rfl, Nat.le_of_ble_eq_true rfl⟩ ?_
  refine v_getp rfl rfl rfl ?_
  refine v_callr rfl ⟨Nat.le_of_ble_eq_true rfl, Nat.le_of_ble_eq_true rfl, rfl, Nat.le_of_ble_eq_true rfl, rfl⟩ ?_
  refine S_sizeT z_B2 h1 ?_
  refine v_sub rfl (by omega) ?_
  refine v_store rfl ⟨rfl, Nat.le_of_ble_eq_true rfl, Nat.le_of_ble_eq_true rfl, rfl⟩ rfl ?_
  refine v_load rfl rfl ⟨rfl, Nat.le_of_ble_eq_true rfl⟩ ?_
  refine v_getp rfl rfl rfl ?_
  refine v_callr rfl ⟨Nat.le_of_ble_eq_true rfl, Nat.le_of_ble_eq_true rfl, rfl, Nat.le_of_ble_eq_true rfl, rfl⟩ ?_
  refine S_remember h5 h6.1 (tk_f hl) (nt_f hl) (fun M1 c1 o1 => ?_)
  have o1' : z_oR 62 70 M M1 := fun b j hb => o1 b j (by omega) (by omega)
  refine v_load rfl rfl ⟨rfl, Nat.le_of_ble_eq_true rfl⟩ ?_
  refine v_getp rfl rfl rfl ?_
  refine v_load rfl rfl ⟨rfl, Nat.le_of_ble_eq_true rfl⟩ ?_
  refine v_getp rfl rfl rfl ?_
  refine v_callr rfl ⟨Nat.le_of_ble_eq_true rfl, Nat.le_of_ble_eq_true rfl, rfl, Nat.le_of_ble_eq_true rfl, rfl⟩ ?_
  refine S_become z_B2 hB6 (by decide) (BV_oR hD o1' (by decide)) hby (fun M2 v2 o2 => ?_)
  have o2' : z_oR 2 3 M1 M2 := fun b j hb => o2 b j (by omega) (by omega)
  have hA2 : HA Pa t Fu M2 := HA_oR (HA_oR h4 o1' (by decide)) o2' (by decide)
  refine v_load rfl rfl ⟨rfl, Nat.le_of_ble_eq_true rfl⟩ ?_
  refine v_getp rfl rfl rfl ?_
  refine v_load rfl rfl ⟨rfl, Nat.le_of_ble_eq_true rfl⟩ ?_
  refine v_getp rfl rfl rfl ?_
  refine v_callr rfl ⟨Nat.le_of_ble_eq_true rfl, Nat.le_of_ble_eq_true rfl, rfl, Nat.le_of_ble_eq_true rfl, rfl⟩ ?_
  refine S_hadd hA2 v2 hby (fun M3 a3 o3 => ?_)
  refine v_load rfl rfl ⟨rfl, Nat.le_of_ble_eq_true rfl⟩ ?_
  refine v_getp rfl rfl rfl ?_
  refine v_callr rfl ⟨Nat.le_of_ble_eq_true rfl, Nat.le_of_ble_eq_true rfl, rfl, Nat.le_of_ble_eq_true rfl, rfl⟩ ?_
  refine S_scan (BV_oR v2 o3 (by decide)) (fun M4 r4 o4 => ?_)
  refine v_load rfl rfl ⟨rfl, Nat.le_of_ble_eq_true rfl⟩ ?_
  refine v_getp rfl rfl rfl ?_
  refine v_callr rfl ⟨Nat.le_of_ble_eq_true rfl, Nat.le_of_ble_eq_true rfl, rfl, Nat.le_of_ble_eq_true rfl, rfl⟩ ?_
  refine S_parse (d := d) hT' r4 (fun M5 n5 o5 => ?_)
  have r5 := RT_oR r4 o5 (by decide)
  have o15 : z_oR 2 61 M1 M5 := z_oR_tr (z_oR_w o2' (by decide) (by decide)) (z_oR_tr (z_oR_w o3 (by decide) (by decide)) (z_oR_tr (z_oR_w o4 (by decide) (by decide)) (z_oR_w o5 (by decide) (by decide))))
  refine v_load rfl rfl ⟨rfl, Nat.le_of_ble_eq_true rfl⟩ ?_
  refine v_getp rfl rfl rfl ?_
  refine v_load rfl rfl ⟨rfl, Nat.le_of_ble_eq_true rfl⟩ ?_
  refine v_load rfl rfl ⟨rfl, Nat.le_of_ble_eq_true rfl⟩ ?_
  refine v_load rfl rfl ⟨rfl, Nat.le_of_ble_eq_true rfl⟩ ?_
  refine v_callr rfl ⟨Nat.le_of_ble_eq_true rfl, Nat.le_of_ble_eq_true rfl, rfl, Nat.le_of_ble_eq_true rfl, rfl⟩ ?_
  refine S_compare (OC_oR c1 o15 (by decide)) (by have := toks_len t; omega) (nt_l hl) r5 n5.1 (fun i hi => by have := tk_f hl' i hi; omega) ⟨by omega, by omega⟩ (fun i hi => NT_bd hT' hi) nt_s nt_s (NT_mono (tkOK_toks t)) (fun M6 k6 o6 => ?_)
  have e17 := k6.2.2.2.2
  have o6' := oC_R o6
  have q9 : M6 1 9 = eK := by rw [o6' 1 9 (by decide), o15 1 9 (by decide), o1' 1 9 (by decide)]; exact h8
  have q10 : M6 1 10 = eN := by rw [o6' 1 10 (by decide), o15 1 10 (by decide), o1' 1 10 (by decide)]; exact h9
  have n6 := TN_oR n5 o6' (by decide)
  have hz1 : z_lalu 0 eK (kpN t t' a b) = some (eK + kpN t t' a b) := by
    show some (z_W _) = _
    rw [z_W_id ⟨by omega, by omega⟩]
  have hz2 : z_lalu 0 eN ((NT (toks t')).length : Int) = some (eN + ((NT (toks t')).length : Int)) := by
    show some (z_W _) = _
    rw [z_W_id ⟨by omega, by omega⟩]
  refine v_load rfl rfl ⟨rfl, Nat.le_of_ble_eq_true rfl⟩ ?_
  refine v_dup rfl (Or.inr rfl) ?_
  refine v_getl rfl rfl ?_
  rw [q9]
  refine v_load rfl rfl ⟨rfl, Nat.le_of_ble_eq_true rfl⟩ ?_
  refine v_getp rfl rfl rfl ?_
  refine v_callr rfl ⟨Nat.le_of_ble_eq_true rfl, Nat.le_of_ble_eq_true rfl, rfl, Nat.le_of_ble_eq_true rfl, rfl⟩ ?_
  refine S_nodesKept k6 ?_
  refine v_i2l rfl ?_
  refine v_lalu rfl (by decide) hz1 ?_
  refine v_putl rfl rfl rfl ?_
  refine v_load rfl rfl ⟨rfl, Nat.le_of_ble_eq_true rfl⟩ ?_
  refine v_dup rfl (Or.inr rfl) ?_
  refine v_getl rfl rfl ?_
  rw [u_n2 (show (10 : Int) ≠ 9 by decide), q10]
  refine v_load rfl rfl ⟨rfl, Nat.le_of_ble_eq_true rfl⟩ ?_
  refine v_getp rfl rfl rfl ?_
  refine v_callr rfl ⟨Nat.le_of_ble_eq_true rfl, Nat.le_of_ble_eq_true rfl, rfl, Nat.le_of_ble_eq_true rfl, rfl⟩ ?_
  refine S_ndSize (RN_oR n6.1 (z_oR_u (lo := 1) (hi := 1) (by decide)) (by decide)) ?_
  refine v_i2l rfl ?_
  refine v_lalu rfl (by decide) hz2 ?_
  refine v_putl rfl rfl rfl ?_
  refine v_load rfl rfl ⟨rfl, Nat.le_of_ble_eq_true rfl⟩ ?_
  refine v_getp rfl rfl rfl ?_
  refine v_callr rfl ⟨Nat.le_of_ble_eq_true rfl, Nat.le_of_ble_eq_true rfl, rfl, Nat.le_of_ble_eq_true rfl, rfl⟩ ?_
  refine S_nodesKept (KPC_oR k6 (z_oR_tr (z_oR_u (lo := 1) (hi := 1) (by decide)) (z_oR_u (by decide))) (by decide)) ?_
  refine v_ret rfl rfl ?_
  have ou : z_oR 1 1 M6 (z_upd (z_upd M6 1 9 (eK + kpN t t' a b)) 1 10 (eN + ((NT (toks t')).length : Int))) := z_oR_tr (z_oR_u (by decide)) (z_oR_u (by decide))
  have v6 : BV M6 2 t' 0 := BV_oR (BV_oR (BV_oR (BV_oR v2 o3 (by decide)) o4 (by decide)) o5 (by decide)) o6' (by decide)
  have a6 : HA (paA Pa t) t' [] M6 := HA_oR (HA_oR (HA_oR a3 o4 (by decide)) o5 (by decide)) o6' (by decide)
  have t6 : BV M6 4 tp s4 := BV_oR (BV_oR (BV_oR (BV_oR (BV_oR (BV_oR h2 o1' (by decide)) o2' (by decide)) o3 (by decide)) o4 (by decide)) o5 (by decide)) o6' (by decide)
  have d6 : BV M6 6 t' 0 := BV_oR (BV_oR (BV_oR (BV_oR (BV_oR (BV_oR hD o1' (by decide)) o2' (by decide)) o3 (by decide)) o4 (by decide)) o5 (by decide)) o6' (by decide)
  refine k _ ⟨BV_oR v6 ou (by decide), ⟨s4, BV_oR t6 ou (by decide)⟩, ⟨t', 0, BV_oR d6 ou (by decide)⟩, HA_oR a6 ou (by decide), RT_oR (RT_oR r5 o6' (by decide)) ou (by decide), TN_oR n6 ou (by decide), KPC_oR k6 ou (by decide), by rw [u_n2 (by decide), u_eq], u_eq⟩ (fun b j hb => ?_)
  rw [ou b j (by omega), o6' b j (by omega), o15 b j (by omega), o1' b j (by omega)]
end ST
