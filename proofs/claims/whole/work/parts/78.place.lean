/-! PLACES of nodes, their sorts: both sides -/
theorem hd_map {cs : List (List zN)} {k : Nat} (h : k < cs.length) : (cs.map hdN).getD k (0, 0, 0, 0, 0, 0) = hdN (cs.getD k []) := by
  rw [List.getD_eq_getElem?_getD, List.getD_eq_getElem?_getD, List.getElem?_map, List.getElem?_eq_getElem h]
  rfl
/-- a node without tokens is MISSING, a LIST, or FILE -/
theorem NT_tk0 {T : List zT} (hT : tkOK T) : ∀ (n i : Nat), n = (NT T).length - i → i < (NT T).length → ((NT T).getD i n0).2.2.2.2.2.2.1 = 0 → ((NT T).getD i n0).1 = 17 ∨ ((NT T).getD i n0).1 = 4 ∨ ((NT T).getD i n0).1 = 0 := by
  intro n
  induction n with
  | zero => intro i hn hi; omega
  | succ n ih =>
    intro i hn hi ht
    obtain ⟨cs, hw, h1, h2, h3, h4, hc⟩ := NT_nod hT hi
    rcases hc with ⟨-, e, -⟩ | ⟨-, -, -, e⟩ | ⟨-, -, e, -⟩ | ⟨h0, hne, hsh, hcv, -⟩
    · right; right; rw [e]
    · omega
    · exact Or.inl e
    · rw [ht, Int.add_zero] at hcv
      have hpos : 0 < cs.length := List.length_pos_iff.mpr hne
      have hr := row_lay hw (NT T) (i + 1) _ _ h3 0 hpos
      have hwl := wf_len hw
      have e0 : posF (NT T) (i + 1) 0 = i + 1 := rfl
      rw [e0] at hr
      -- the first child has no tokens
      have hm : hdN (cs.getD 0 []) ∈ cs.flatten := by
        have := List.mem_map_of_mem (f := qN) (List.getElem_mem (l := lay (i : Int) (((NT T).getD i n0).2.2.2.2.1 + 1) ((i + 1 : Nat) : Int) cs.flatten) (n := 0) (by rw [lay_len hw]; omega))
        rw [lay_map hw] at this
        rw [← hr.2.2.2.2.1, show (NT T).getD (i + 1) n0 = (lay (i : Int) (((NT T).getD i n0).2.2.2.2.1 + 1) ((i + 1 : Nat) : Int) cs.flatten).getD 0 n0 from by have := h3 0 (by omega); rw [Nat.add_zero] at this; exact this, List.getD_eq_getElem?_getD, List.getElem?_eq_getElem (by rw [lay_len hw]; omega)]
        exact this
      have hb := cv_bd hcv _ hm
      have ht1 : (hdN (cs.getD 0 [])).2.2.2.2.1 = 0 := by omega
      have ht2 : ((NT T).getD (i + 1) n0).2.2.2.2.2.2.1 = 0 := by
        have := congrArg (fun z : zN => z.2.2.2.2.1) hr.2.2.2.2.1
        exact this.trans ht1
      have hs2 : ((NT T).getD (i + 1) n0).1 = (hdN (cs.getD 0 [])).1 := congrArg (fun z : zN => z.1) hr.2.2.2.2.1
      have hrec := ih (i + 1) (by omega) (by omega) ht2
      rw [hs2] at hrec
      have hcs0 : ∀ x r, cs.map hdN = x :: r → hdN (cs.getD 0 []) = x := by
        intro x r e
        cases cs with
        | nil => exact absurd rfl hne
        | cons c cs => simp at e; exact e.1
      have no1 : ∀ so a sg r, cs.map hdN = hdN (lfN so a 1 sg) :: r → False := by
        intro so a sg r e
        have := hcs0 _ _ e
        rw [this] at ht1
        have : (hdN (lfN so a 1 sg)).2.2.2.2.1 = a + 1 - a := rfl
        omega
      unfold shp at hsh
      rcases hsh with ⟨-, x, y, e, hx, -⟩ | ⟨-, x, y, e, -⟩ | ⟨-, x, y, z, e, -⟩ | ⟨e, -⟩ | ⟨-, x, y, e, -⟩ | ⟨-, ⟨x, e⟩, -⟩ | ⟨-, x, y, j, e, -, -, hj⟩ | ⟨-, x, y, e, -⟩
      · exfalso
        rw [hcs0 _ _ e] at hrec
        rcases hx with hx | hx
        · unfold isI nS at hx; omega
        · unfold nS at hx; omega
      · exact (no1 _ _ _ _ e).elim
      · exact (no1 _ _ _ _ e).elim
      · exact Or.inr (Or.inl e)
      · exact (no1 _ _ _ _ e).elim
      · exact (no1 _ _ _ _ e).elim
      · exfalso
        -- the mark of a sum has a token
        have hr1 := row_lay hw (NT T) (i + 1) _ _ h3 1 (by have := congrArg List.length e; simp at this; omega)
        have hm1 : hdN (lfN 16 j 1 (sgn T j)) ∈ cs.flatten := by
          have hmm : hdN (cs.getD 1 []) = hdN (lfN 16 j 1 (sgn T j)) := by
            have hg := hd_map (cs := cs) (k := 1) (by have := congrArg List.length e; simp at this; omega)
            rw [e] at hg
            exact hg.symm
          rw [← hmm]
          have hp1 := hr1.2.1
          have hp2 := hr1.1
          have := h3 (posF (NT T) (i + 1) 1 - (i + 1)) (by omega)
          rw [show i + 1 + (posF (NT T) (i + 1) 1 - (i + 1)) = posF (NT T) (i + 1) 1 by omega] at this
          rw [← hr1.2.2.2.2.1, this, List.getD_eq_getElem?_getD, List.getElem?_eq_getElem (by rw [lay_len hw]; omega)]
          have := List.mem_map_of_mem (f := qN) (List.getElem_mem (l := lay (i : Int) (((NT T).getD i n0).2.2.2.2.1 + 1) ((i + 1 : Nat) : Int) cs.flatten) (n := posF (NT T) (i + 1) 1 - (i + 1)) (by rw [lay_len hw]; omega))
          rw [lay_map hw] at this
          exact this
        have hb1 := cv_bd hcv _ hm1
        have : (hdN (lfN 16 j 1 (sgn T j))).2.2.2.2.1 = j + 1 - j := rfl
        omega
      · exact (no1 _ _ _ _ e).elim
/-- a node's first byte, or its place; what is behind its last -/
noncomputable def pF (t : List Int) (i : Int) : Int := if i = 0 then 0 else if (nd (NT (toks t)) i).2.2.2.2.2.2.1 = 0 then (tk (toks t) ((nd (NT (toks t)) i).2.2.2.2.2.1 - 1)).2.2.1 else (tk (toks t) (nd (NT (toks t)) i).2.2.2.2.2.1).2.1
noncomputable def pE (t : List Int) (i : Int) : Int := if i = 0 then (t.length : Int) else (tk (toks t) ((nd (NT (toks t)) i).2.2.2.2.2.1 + (nd (NT (toks t)) i).2.2.2.2.2.2.1 - 1)).2.2.1
def itm (s : Int) : Bool := decide (s = 2 ∨ s = 3 ∨ (5 ≤ s ∧ s ≤ 9))
theorem tk_rng {t : List Int} (i : Int) : 0 ≤ (tk (toks t) i).2.1 ∧ (tk (toks t) i).2.1 ≤ (tk (toks t) i).2.2.1 ∧ (tk (toks t) i).2.2.1 ≤ (t.length : Int) := by
  by_cases c : 0 ≤ i ∧ i < ((toks t).length : Int)
  · have := (tq_at c).1
    omega
  · rw [tk_out c]
    exact ⟨by show (0 : Int) ≤ 0; decide, by show (0 : Int) ≤ 0; decide, by show (0 : Int) ≤ _; omega⟩
theorem nd_rng {t : List Int} (hl : t.length ≤ 300) (i : Int) : -1 ≤ (nd (NT (toks t)) i).2.2.2.2.2.1 ∧ (nd (NT (toks t)) i).2.2.2.2.2.1 ≤ 300 ∧ 0 ≤ (nd (NT (toks t)) i).2.2.2.2.2.2.1 ∧ (nd (NT (toks t)) i).2.2.2.2.2.2.1 ≤ 300 := by
  by_cases c : 0 ≤ i ∧ i < ((NT (toks t)).length : Int)
  · have h1 := NT_bd (tkOK_toks t) (i := i.toNat) (by omega)
    have h2 := toks_len t
    rw [nd_in c]
    omega
  · rw [nd_out c]
    exact ⟨by show (-1 : Int) ≤ -1; decide, by show (-1 : Int) ≤ 300; decide, by show (0 : Int) ≤ 0; decide, by show (0 : Int) ≤ 300; decide⟩
theorem pF_rng (t : List Int) (i : Int) : 0 ≤ pF t i ∧ pF t i ≤ (t.length : Int) := by
  unfold pF
  split
  · exact ⟨Int.le_refl _, by omega⟩
  · split
    · have := tk_rng (t := t) ((nd (NT (toks t)) i).2.2.2.2.2.1 - 1); omega
    · have := tk_rng (t := t) ((nd (NT (toks t)) i).2.2.2.2.2.1); omega
theorem pE_rng (t : List Int) (i : Int) : 0 ≤ pE t i ∧ pE t i ≤ (t.length : Int) := by
  unfold pE
  split
  · exact ⟨by omega, Int.le_refl _⟩
  · have := tk_rng (t := t) ((nd (NT (toks t)) i).2.2.2.2.2.1 + (nd (NT (toks t)) i).2.2.2.2.2.2.1 - 1); omega
theorem pF_pE {t : List Int} (i : Int) : pF t i ≤ pE t i := by
  unfold pF pE
  by_cases c : i = 0
  · rw [if_pos c, if_pos c]; omega
  · rw [if_neg c, if_neg c]
    by_cases c2 : 0 ≤ i ∧ i < ((NT (toks t)).length : Int)
    · have h1 := NT_bd (tkOK_toks t) (i := i.toNat) (by omega)
      rw [nd_in c2]
      by_cases c3 : ((NT (toks t)).getD i.toNat n0).2.2.2.2.2.2.1 = 0
      · rw [if_pos c3, c3, Int.add_zero]; exact Int.le_refl _
      · rw [if_neg c3]
        by_cases c4 : ((NT (toks t)).getD i.toNat n0).2.2.2.2.2.2.1 = 1
        · rw [c4, show ∀ x : Int, x + 1 - 1 = x from fun x => by omega]
          have := tk_rng (t := t) ((NT (toks t)).getD i.toNat n0).2.2.2.2.2.1
          omega
        · have := tq_ord (t := t) (i := ((NT (toks t)).getD i.toNat n0).2.2.2.2.2.1) (j := ((NT (toks t)).getD i.toNat n0).2.2.2.2.2.1 + ((NT (toks t)).getD i.toNat n0).2.2.2.2.2.2.1 - 1) (by omega) (by omega) (by omega)
          have h5 := tk_rng (t := t) ((NT (toks t)).getD i.toNat n0).2.2.2.2.2.1
          have h6 := tk_rng (t := t) (((NT (toks t)).getD i.toNat n0).2.2.2.2.2.1 + ((NT (toks t)).getD i.toNat n0).2.2.2.2.2.2.1 - 1)
          omega
    · rw [nd_out c2]
      show (if (0 : Int) = 0 then (tk (toks t) (-1 - 1)).2.2.1 else _) ≤ (tk (toks t) (-1 + 0 - 1)).2.2.1
      rw [if_pos rfl]
      exact Int.le_refl _
section PL
variable {L d : Nat} {M : zM} {Q : Option zV → zM → Prop} {t : List Int}
theorem S_firstOf {i : Int} (hR : RT (toks t) M) (hN : TN (toks t) M) (hl : t.length ≤ 300) (k : Q (some (0, pF t i)) M) : v_call L (d + 2) 98 [(2, 42), (0, i)] M Q := by
  have hr := nd_rng hl i
  unfold pF at k
  refine v_in ?_
  refine v_load rfl rfl ⟨rfl, Nat.le_of_ble_eq_true rfl⟩ ?_
  refine v_ifne rfl (fun c1 => ?_) (fun c1 => ?_)
  · refine v_load rfl rfl ⟨rfl, Nat.le_of_ble_eq_true rfl⟩ ?_
    refine v_load rfl rfl ⟨rfl, Nat.le_of_ble_eq_true rfl⟩ ?_
    refine v_callr rfl ⟨Nat.le_of_ble_eq_true rfl, Nat.le_of_ble_eq_true rfl, rfl, Nat.le_of_ble_eq_true rfl, rfl⟩ ?_
    refine S_ndFrom hN.1 ?_
    refine v_store rfl ⟨rfl, Nat.le_of_ble_eq_true rfl, Nat.le_of_ble_eq_true rfl, rfl⟩ rfl ?_
    refine v_load rfl rfl ⟨rfl, Nat.le_of_ble_eq_true rfl⟩ ?_
    refine v_load rfl rfl ⟨rfl, Nat.le_of_ble_eq_true rfl⟩ ?_
    refine v_callr rfl ⟨Nat.le_of_ble_eq_true rfl, Nat.le_of_ble_eq_true rfl, rfl, Nat.le_of_ble_eq_true rfl, rfl⟩ ?_
    refine S_ndTaken hN.1 ?_
    refine v_ifne rfl (fun c2 => ?_) (fun c2 => ?_)
    · refine v_load rfl rfl ⟨rfl, Nat.le_of_ble_eq_true rfl⟩ ?_
      refine v_getp rfl rfl rfl ?_
      refine v_load rfl rfl ⟨rfl, Nat.le_of_ble_eq_true rfl⟩ ?_
      refine v_callr rfl ⟨Nat.le_of_ble_eq_true rfl, Nat.le_of_ble_eq_true rfl, rfl, Nat.le_of_ble_eq_true rfl, rfl⟩ ?_
      refine S_tkFirst hR ?_
      refine v_ret rfl rfl ?_
      exact qeq k (by repeat' split; all_goals first | rfl | omega)
    · refine v_load rfl rfl ⟨rfl, Nat.le_of_ble_eq_true rfl⟩ ?_
      refine v_getp rfl rfl rfl ?_
      refine v_load rfl rfl ⟨rfl, Nat.le_of_ble_eq_true rfl⟩ ?_
      refine v_push rfl ?_
      refine v_sub rfl (by omega) ?_
      refine v_callr rfl ⟨Nat.le_of_ble_eq_true rfl, Nat.le_of_ble_eq_true rfl, rfl, Nat.le_of_ble_eq_true rfl, rfl⟩ ?_
      refine S_tkEnd hR ?_
      refine v_goto rfl ?_
      refine v_ret rfl rfl ?_
      exact qeq k (by repeat' split; all_goals first | rfl | omega)
  · refine v_push rfl ?_
    refine v_ret rfl rfl ?_
    exact qeq k (by repeat' split; all_goals first | rfl | omega)
theorem S_endOf {i : Int} (hV : BV M 2 t 0) (hR : RT (toks t) M) (hN : TN (toks t) M) (hl : t.length ≤ 300) (k : Q (some (0, pE t i)) M) : v_call L (d + 2) 99 [(2, 42), (0, i)] M Q := by
  have hr := nd_rng hl i
  unfold pE at k
  refine v_in ?_
  refine v_load rfl rfl ⟨rfl, Nat.le_of_ble_eq_true rfl⟩ ?_
  refine v_ifne rfl (fun c3 => ?_) (fun c3 => ?_)
  · refine v_load rfl rfl ⟨rfl, Nat.le_of_ble_eq_true rfl⟩ ?_
    refine v_getp rfl rfl rfl ?_
    refine v_load rfl rfl ⟨rfl, Nat.le_of_ble_eq_true rfl⟩ ?_
    refine v_load rfl rfl ⟨rfl, Nat.le_of_ble_eq_true rfl⟩ ?_
    refine v_callr rfl ⟨Nat.le_of_ble_eq_true rfl, Nat.le_of_ble_eq_true rfl, rfl, Nat.le_of_ble_eq_true rfl, rfl⟩ ?_
    refine S_ndFrom hN.1 ?_
    refine v_load rfl rfl ⟨rfl, Nat.le_of_ble_eq_true rfl⟩ ?_
    refine v_load rfl rfl ⟨rfl, Nat.le_of_ble_eq_true rfl⟩ ?_
    refine v_callr rfl ⟨Nat.le_of_ble_eq_true rfl, Nat.le_of_ble_eq_true rfl, rfl, Nat.le_of_ble_eq_true rfl, rfl⟩ ?_
    refine S_ndTaken hN.1 ?_
    refine v_add rfl (by omega) ?_
    refine v_push rfl ?_
    refine v_sub rfl (by omega) ?_
    refine v_callr rfl ⟨Nat.le_of_ble_eq_true rfl, Nat.le_of_ble_eq_true rfl, rfl, Nat.le_of_ble_eq_true rfl, rfl⟩ ?_
    refine S_tkEnd hR ?_
    refine v_ret rfl rfl ?_
    exact qeq k (by repeat' split; all_goals first | rfl | omega)
  · refine v_load rfl rfl ⟨rfl, Nat.le_of_ble_eq_true rfl⟩ ?_
    refine v_getp rfl rfl rfl ?_
    refine v_callr rfl ⟨Nat.le_of_ble_eq_true rfl, Nat.le_of_ble_eq_true rfl, rfl, Nat.le_of_ble_eq_true rfl, rfl⟩ ?_
    refine S_sizeT z_B2 hV ?_
    refine v_goto rfl ?_
    refine v_ret rfl rfl ?_
    exact qeq k (by repeat' split; all_goals first | rfl | omega)
theorem S_isItem {i : Int} {N : List zQ} (hN : RN N M) (k : Q (some (0, b2i (itm (nd N i).1))) M) : v_call L (d + 2) 88 [(2, 42), (0, i)] M Q := by
  refine v_in ?_
  refine v_load rfl rfl ⟨rfl, Nat.le_of_ble_eq_true rfl⟩ ?_
  refine v_load rfl rfl ⟨rfl, Nat.le_of_ble_eq_true rfl⟩ ?_
  refine v_callr rfl ⟨Nat.le_of_ble_eq_true rfl, Nat.le_of_ble_eq_true rfl, rfl, Nat.le_of_ble_eq_true rfl, rfl⟩ ?_
  refine S_ndSort hN ?_
  refine v_tsw rfl ?_
  generalize (nd N i).1 = s at *
  by_cases c : s = 2 ∨ s = 3 ∨ (5 ≤ s ∧ s ≤ 9)
  · have e : itm s = true := decide_eq_true c
    rw [e] at k
    have : s = 2 ∨ s = 3 ∨ s = 5 ∨ s = 6 ∨ s = 7 ∨ s = 8 ∨ s = 9 := by omega
    rcases this with rfl | rfl | rfl | rfl | rfl | rfl | rfl <;> exact v_push rfl (v_ret rfl rfl k)
  · have e : itm s = false := decide_eq_false c
    rw [e] at k
    have e2 : z_sw 54 s [(2, 52), (3, 52), (4, 54), (5, 52), (6, 52), (7, 52), (8, 52), (9, 52)] = 54 := by
      unfold z_sw z_sw z_sw z_sw z_sw z_sw z_sw z_sw z_sw
      repeat' split
      all_goals omega
    have e3 : (z_sw 54 s [(2, 52), (3, 52), (4, 54), (5, 52), (6, 52), (7, 52), (8, 52), (9, 52)]).toNat = 54 := by rw [e2]; rfl
    show v_wp L (d + 2) 88 (z_sw 54 s [(2, 52), (3, 52), (4, 54), (5, 52), (6, 52), (7, 52), (8, 52), (9, 52)]).toNat _ _ M Q
    rw [e3]
    exact v_push rfl (v_ret rfl rfl k)
/-- the reference's places -/
theorem R_tokenEnd {T : List zT} {i : Int} (hR : RR T M) (hi : 0 ≤ i ∧ i < (T.length : Int)) (hb : 0 ≤ (tk T i).2.1 ∧ (tk T i).2.2.1 ≤ 1000 ∧ (tk T i).2.1 ≤ (tk T i).2.2.1) (k : Q (some (0, (tk T i).2.2.1)) M) : v_call L d 187 [(2, 77), (0, i)] M Q := by
  have hl := hR.2.1
  obtain ⟨g1, g2, g3, g4⟩ := RR_at hR hi
  refine v_in ?_
  refine v_load rfl rfl ⟨rfl, Nat.le_of_ble_eq_true rfl⟩ ?_
  refine v_getp rfl rfl rfl ?_
  refine v_load rfl rfl ⟨rfl, Nat.le_of_ble_eq_true rfl⟩ ?_
  refine v_ald9 rfl rfl ⟨by omega, by show _ < (300 : Int); omega⟩ ?_
  refine v_load rfl rfl ⟨rfl, Nat.le_of_ble_eq_true rfl⟩ ?_
  refine v_getp rfl rfl rfl ?_
  refine v_load rfl rfl ⟨rfl, Nat.le_of_ble_eq_true rfl⟩ ?_
  refine v_ald9 rfl rfl ⟨by omega, by show _ < (300 : Int); omega⟩ ?_
  refine v_add rfl (by omega) ?_
  refine v_ret rfl rfl ?_
  exact qeq k (by omega)
theorem R_from {i : Int} (hS : RSt t M) (hi : 0 ≤ i ∧ i < ((NT (toks t)).length : Int)) (k : Q (some (0, pF t i)) M) : v_call L (d + 1) 220 [(2, 77), (0, i)] M Q := by
  have hT := tkOK_toks t
  have hl := hS.1.2.1
  have hRl := hS.2.1.2.1
  have hNl := (TM_len hS.2.2.1).2
  have hin : i.toNat < (NT (toks t)).length := by omega
  obtain ⟨g1, -, -, -, -, g6, g7, -⟩ := TM_at hS.2.2.1 hin
  have g9 := (hS.2.2.1.2.1 i.toNat hin).2
  rw [show ((i.toNat : Nat) : Int) = i by omega] at g1 g6 g7 g9
  have hb := NT_bd hT hin
  unfold pF at k
  rw [nd_in hi] at k
  refine v_in ?_
  by_cases c0 : i = 0
  · rw [if_pos c0] at k
    refine v_load rfl rfl ⟨rfl, Nat.le_of_ble_eq_true rfl⟩ ?_
    refine v_ifne rfl (fun h => absurd h (fun z => z c0)) (fun _ => ?_)
    refine v_push rfl ?_
    refine v_ret rfl rfl ?_
    exact k
  · rw [if_neg c0] at k
    by_cases c1 : ((NT (toks t)).getD i.toNat n0).2.2.2.2.2.2.1 = 0
    · rw [if_pos c1] at k
      have hn := g9 (by unfold nxC; exact NT_tk0 hT _ _ rfl hin c1)
      by_cases c2 : ((NT (toks t)).getD i.toNat n0).2.2.2.2.2.1 = 0
      · rw [c2, tk_out (by omega)] at k
        refine v_load rfl rfl ⟨rfl, Nat.le_of_ble_eq_true rfl⟩ ?_
        refine v_ifne rfl (fun _ => ?_) (fun h => absurd h (c0))
        refine v_load rfl rfl ⟨rfl, Nat.le_of_ble_eq_true rfl⟩ ?_
        refine v_getp rfl rfl rfl ?_
        refine v_load rfl rfl ⟨rfl, Nat.le_of_ble_eq_true rfl⟩ ?_
        refine v_ald9 rfl rfl ⟨by omega, by show _ < (1600 : Int); omega⟩ ?_
        refine v_ifle rfl (fun _ => ?_) (fun h => absurd h (by omega))
        refine v_load rfl rfl ⟨rfl, Nat.le_of_ble_eq_true rfl⟩ ?_
        refine v_getp rfl rfl rfl ?_
        refine v_load rfl rfl ⟨rfl, Nat.le_of_ble_eq_true rfl⟩ ?_
        refine v_ald9 rfl rfl ⟨by omega, by show _ < (1600 : Int); omega⟩ ?_
        refine v_ifne rfl (fun h => absurd h (by omega)) (fun _ => ?_)
        refine v_push rfl ?_
        refine v_goto rfl ?_
        refine v_ret rfl rfl ?_
        exact k
      · have hr := tk_rng (t := t) (((NT (toks t)).getD i.toNat n0).2.2.2.2.2.1 - 1)
        refine v_load rfl rfl ⟨rfl, Nat.le_of_ble_eq_true rfl⟩ ?_
        refine v_ifne rfl (fun _ => ?_) (fun h => absurd h (c0))
        refine v_load rfl rfl ⟨rfl, Nat.le_of_ble_eq_true rfl⟩ ?_
        refine v_getp rfl rfl rfl ?_
        refine v_load rfl rfl ⟨rfl, Nat.le_of_ble_eq_true rfl⟩ ?_
        refine v_ald9 rfl rfl ⟨by omega, by show _ < (1600 : Int); omega⟩ ?_
        refine v_ifle rfl (fun _ => ?_) (fun h => absurd h (by omega))
        refine v_load rfl rfl ⟨rfl, Nat.le_of_ble_eq_true rfl⟩ ?_
        refine v_getp rfl rfl rfl ?_
        refine v_load rfl rfl ⟨rfl, Nat.le_of_ble_eq_true rfl⟩ ?_
        refine v_ald9 rfl rfl ⟨by omega, by show _ < (1600 : Int); omega⟩ ?_
        refine v_ifne rfl (fun _ => ?_) (fun h => absurd h (by omega))
        refine v_load rfl rfl ⟨rfl, Nat.le_of_ble_eq_true rfl⟩ ?_
        refine v_load rfl rfl ⟨rfl, Nat.le_of_ble_eq_true rfl⟩ ?_
        refine v_getp rfl rfl rfl ?_
        refine v_load rfl rfl ⟨rfl, Nat.le_of_ble_eq_true rfl⟩ ?_
        refine v_ald9 rfl rfl ⟨by omega, by show _ < (1600 : Int); omega⟩ ?_
        rw [hn]
        refine v_push rfl ?_
        refine v_sub rfl (by omega) ?_
        refine v_callr rfl ⟨Nat.le_of_ble_eq_true rfl, Nat.le_of_ble_eq_true rfl, rfl, Nat.le_of_ble_eq_true rfl, rfl⟩ ?_
        refine R_tokenEnd hS.2.1 ⟨by omega, by omega⟩ ⟨by omega, by omega, by omega⟩ ?_
        refine v_ret rfl rfl ?_
        exact k
    · rw [if_neg c1] at k
      rw [if_pos (by omega)] at g6
      have g2 := (RR_at hS.2.1 (i := ((NT (toks t)).getD i.toNat n0).2.2.2.2.2.1) ⟨by omega, by omega⟩).2.1
      refine v_load rfl rfl ⟨rfl, Nat.le_of_ble_eq_true rfl⟩ ?_
      refine v_ifne rfl (fun _ => ?_) (fun h => absurd h (c0))
      refine v_load rfl rfl ⟨rfl, Nat.le_of_ble_eq_true rfl⟩ ?_
      refine v_getp rfl rfl rfl ?_
      refine v_load rfl rfl ⟨rfl, Nat.le_of_ble_eq_true rfl⟩ ?_
      refine v_ald9 rfl rfl ⟨by omega, by show _ < (1600 : Int); omega⟩ ?_
      refine v_ifle rfl (fun h => absurd h (by omega)) (fun _ => ?_)
      refine v_load rfl rfl ⟨rfl, Nat.le_of_ble_eq_true rfl⟩ ?_
      refine v_getp rfl rfl rfl ?_
      refine v_load rfl rfl ⟨rfl, Nat.le_of_ble_eq_true rfl⟩ ?_
      refine v_getp rfl rfl rfl ?_
      refine v_load rfl rfl ⟨rfl, Nat.le_of_ble_eq_true rfl⟩ ?_
      refine v_ald9 rfl rfl ⟨by omega, by show _ < (1600 : Int); omega⟩ ?_
      rw [g6]
      refine v_ald9 rfl rfl ⟨by omega, by show _ < (300 : Int); omega⟩ ?_
      rw [g2]
      refine v_ret rfl rfl ?_
      exact k
theorem R_to {i : Int} (hS : RSt t M) (hi : 0 ≤ i ∧ i < ((NT (toks t)).length : Int)) (k : Q (some (0, pE t i)) M) : v_call L (d + 2) 221 [(2, 77), (0, i)] M Q := by
  have hT := tkOK_toks t
  have hl := hS.1.2.1
  have hRl := hS.2.1.2.1
  have hNl := (TM_len hS.2.2.1).2
  have hin : i.toNat < (NT (toks t)).length := by omega
  obtain ⟨g1, -, -, -, -, g6, g7, -⟩ := TM_at hS.2.2.1 hin
  rw [show ((i.toNat : Nat) : Int) = i by omega] at g1 g6 g7
  have hb := NT_bd hT hin
  have hpf : i ≠ 0 → ((NT (toks t)).getD i.toNat n0).2.2.2.2.2.2.1 = 0 → pF t i = pE t i := by
    intro c0 c1
    unfold pF pE
    rw [if_neg c0, if_neg c0, nd_in hi, if_pos c1, c1, Int.add_zero]
  refine v_in ?_
  by_cases c0 : i = 0
  · unfold pE at k
    rw [if_pos c0] at k
    refine v_load rfl rfl ⟨rfl, Nat.le_of_ble_eq_true rfl⟩ ?_
    refine v_ifne rfl (fun h => absurd h (fun z => z c0)) (fun _ => ?_)
    refine v_load rfl rfl ⟨rfl, Nat.le_of_ble_eq_true rfl⟩ ?_
    refine v_getx rfl rfl (hS.1.1) ?_
    refine v_ret rfl rfl ?_
    exact k
  · by_cases c1 : ((NT (toks t)).getD i.toNat n0).2.2.2.2.2.2.1 = 0
    · rw [← hpf c0 c1] at k
      refine v_load rfl rfl ⟨rfl, Nat.le_of_ble_eq_true rfl⟩ ?_
      refine v_ifne rfl (fun _ => ?_) (fun h => absurd h (c0))
      refine v_load rfl rfl ⟨rfl, Nat.le_of_ble_eq_true rfl⟩ ?_
      refine v_getp rfl rfl rfl ?_
      refine v_load rfl rfl ⟨rfl, Nat.le_of_ble_eq_true rfl⟩ ?_
      refine v_ald9 rfl rfl ⟨by omega, by show _ < (1600 : Int); omega⟩ ?_
      refine v_ifle rfl (fun _ => ?_) (fun h => absurd h (by omega))
      refine v_load rfl rfl ⟨rfl, Nat.le_of_ble_eq_true rfl⟩ ?_
      refine v_load rfl rfl ⟨rfl, Nat.le_of_ble_eq_true rfl⟩ ?_
      refine v_callr rfl ⟨Nat.le_of_ble_eq_true rfl, Nat.le_of_ble_eq_true rfl, rfl, Nat.le_of_ble_eq_true rfl, rfl⟩ ?_
      refine R_from hS hi ?_
      refine v_ret rfl rfl ?_
      exact k
    · unfold pE at k
      rw [if_neg c0, nd_in hi] at k
      rw [if_pos (by omega)] at g6
      have hr := tk_rng (t := t) (((NT (toks t)).getD i.toNat n0).2.2.2.2.2.1 + ((NT (toks t)).getD i.toNat n0).2.2.2.2.2.2.1 - 1)
      refine v_load rfl rfl ⟨rfl, Nat.le_of_ble_eq_true rfl⟩ ?_
      refine v_ifne rfl (fun _ => ?_) (fun h => absurd h (c0))
      refine v_load rfl rfl ⟨rfl, Nat.le_of_ble_eq_true rfl⟩ ?_
      refine v_getp rfl rfl rfl ?_
      refine v_load rfl rfl ⟨rfl, Nat.le_of_ble_eq_true rfl⟩ ?_
      refine v_ald9 rfl rfl ⟨by omega, by show _ < (1600 : Int); omega⟩ ?_
      refine v_ifle rfl (fun h => absurd h (by omega)) (fun _ => ?_)
      refine v_load rfl rfl ⟨rfl, Nat.le_of_ble_eq_true rfl⟩ ?_
      refine v_load rfl rfl ⟨rfl, Nat.le_of_ble_eq_true rfl⟩ ?_
      refine v_getp rfl rfl rfl ?_
      refine v_load rfl rfl ⟨rfl, Nat.le_of_ble_eq_true rfl⟩ ?_
      refine v_ald9 rfl rfl ⟨by omega, by show _ < (1600 : Int); omega⟩ ?_
      rw [g6]
      refine v_load rfl rfl ⟨rfl, Nat.le_of_ble_eq_true rfl⟩ ?_
      refine v_getp rfl rfl rfl ?_
      refine v_load rfl rfl ⟨rfl, Nat.le_of_ble_eq_true rfl⟩ ?_
      refine v_ald9 rfl rfl ⟨by omega, by show _ < (1600 : Int); omega⟩ ?_
      rw [g7]
      refine v_add rfl (by omega) ?_
      refine v_push rfl ?_
      refine v_sub rfl (by omega) ?_
      refine v_callr rfl ⟨Nat.le_of_ble_eq_true rfl, Nat.le_of_ble_eq_true rfl, rfl, Nat.le_of_ble_eq_true rfl, rfl⟩ ?_
      refine R_tokenEnd hS.2.1 ⟨by omega, by omega⟩ ⟨by omega, by omega, by omega⟩ ?_
      refine v_goto rfl ?_
      refine v_ret rfl rfl ?_
      exact k
end PL
