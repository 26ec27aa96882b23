/-! THE REFERENCE'S PARSER: what it makes is seen as drafts (V: a memory that is thought beside it) -/
theorem qeq {Q : Option zV → zM → Prop} {M : zM} {x y : Int} (k : Q (some (0, x)) M) (e : x = y) : Q (some (0, y)) M := e ▸ k
def isLf (so : Int) : Bool := decide (so = 8 ∨ so = 9 ∨ so = 12 ∨ so = 13 ∨ so = 14 ∨ so = 16)
def GN (V M : zM) (x : Int) : Prop := M 85 x = V 53 x ∧ M 86 x = (if isLf (V 53 x) = true then V 54 x else -1) ∧ M 87 x = (if V 53 x = 17 then V 56 x else 0) ∧ (V 53 x = 17 ∨ V 53 x = 4 ∨ V 53 x = 0 → M 88 x = V 54 x) ∧ M 89 x = V 58 x ∧ M 90 x = V 59 x ∧ M 91 x = V 60 x ∧ M 92 x = V 57 x
def GV (V M : zM) (h : Int) : Prop := ∀ x, 0 ≤ x → x < h → GN V M x
theorem GN_fr {V V' M M' : zM} {x : Int} (hg : GN V M x) (h1 : ∀ b, 85 ≤ b → b ≤ 92 → M' b x = M b x) (h2 : ∀ b, 53 ≤ b → b ≤ 60 → b ≠ 55 → V' b x = V b x) : GN V' M' x := by
  unfold GN
  rw [h1 85 (by decide) (by decide), h1 86 (by decide) (by decide), h1 87 (by decide) (by decide), h1 88 (by decide) (by decide), h1 89 (by decide) (by decide), h1 90 (by decide) (by decide), h1 91 (by decide) (by decide), h1 92 (by decide) (by decide),
    h2 53 (by decide) (by decide) (by decide), h2 54 (by decide) (by decide) (by decide), h2 56 (by decide) (by decide) (by decide), h2 57 (by decide) (by decide) (by decide), h2 58 (by decide) (by decide) (by decide), h2 59 (by decide) (by decide) (by decide), h2 60 (by decide) (by decide) (by decide)]
  exact hg
/-- the reference's parser: nodes made, token, frames, nest, row -/
def KS (t : List Int) (h a op ne rl : Int) (V M : zM) : Prop := (RX t M ∧ RR (toks t) M) ∧ (M 77 19 = h ∧ M 77 28 = a ∧ M 77 27 = op ∧ M 77 29 = ne ∧ M 77 30 = rl) ∧ GV V M h ∧ (0 ≤ h ∧ h ≤ 1216 ∧ 0 ≤ a ∧ a ≤ 1000)
/-- made, at and the made nodes alone have changed -/
def KB (M M' : zM) : Prop := ∀ b j, ¬ (85 ≤ b ∧ b ≤ 92) → (b = 77 → j ≠ 19 ∧ j ≠ 28) → M' b j = M b j
theorem KB_rf {M : zM} : KB M M := fun _ _ _ _ => rfl
theorem KB_tr {M M1 M2 : zM} (h : KB M M1) (h2 : KB M1 M2) : KB M M2 := fun b j h3 h4 => (h2 b j h3 h4).trans (h b j h3 h4)
theorem KB_RX {t : List Int} {M M' : zM} (h : RX t M) (hb : KB M M') : RX t M' := ⟨(hb 77 4 (by decide) (fun _ => by decide)).trans h.1, h.2.1, fun i hi => (hb 79 i (by decide) (fun e => absurd e (by decide))).trans (h.2.2 i hi)⟩
theorem KB_RR {T : List zT} {M M' : zM} (h : RR T M) (hb : KB M M') : RR T M' := ⟨(hb 77 10 (by decide) (fun _ => by decide)).trans h.1, h.2.1, fun i hi => by
  rw [hb 81 i (by decide) (fun e => absurd e (by decide)), hb 82 i (by decide) (fun e => absurd e (by decide)), hb 83 i (by decide) (fun e => absurd e (by decide)), hb 84 i (by decide) (fun e => absurd e (by decide))]
  exact h.2.2 i hi⟩
theorem KS_KB {t : List Int} {h a op ne rl h' a' : Int} {V V' M M' : zM} (hK : KS t h a op ne rl V M) (hb : KB M M') (e1 : M' 77 19 = h') (e2 : M' 77 28 = a') (hg : GV V' M' h') (hr : 0 ≤ h' ∧ h' ≤ 1216 ∧ 0 ≤ a' ∧ a' ≤ 1000) : KS t h' a' op ne rl V' M' := by
  obtain ⟨⟨x1, x2⟩, ⟨-, -, x3, x4, x5⟩, -, -⟩ := hK
  exact ⟨⟨KB_RX x1 hb, KB_RR x2 hb⟩, ⟨e1, e2, (hb 77 27 (by decide) (fun _ => by decide)).trans x3, (hb 77 29 (by decide) (fun _ => by decide)).trans x4, (hb 77 30 (by decide) (fun _ => by decide)).trans x5⟩, hg, hr⟩
/-- a node more, in what is thought -/
def gmk (V : zM) (h so fr up sg : Int) : zM := z_upd (z_upd (z_upd (z_upd (z_upd (z_upd (z_upd (z_upd V 53 h so) 54 h fr) 55 h up) 56 h sg) 57 h (-1)) 58 h (-1)) 59 h (-1)) 60 h (-1)
theorem gmk_ne {V : zM} {h so fr up sg b j : Int} (hj : j ≠ h) : gmk V h so fr up sg b j = V b j := by
  unfold gmk
  simp (disch := assumption) only [u_n2]
theorem gmk_at {V : zM} {h so fr up sg : Int} : gmk V h so fr up sg 53 h = so ∧ gmk V h so fr up sg 54 h = fr ∧ gmk V h so fr up sg 55 h = up ∧ gmk V h so fr up sg 56 h = sg ∧ gmk V h so fr up sg 57 h = -1 ∧ gmk V h so fr up sg 58 h = -1 ∧ gmk V h so fr up sg 59 h = -1 ∧ gmk V h so fr up sg 60 h = -1 := by
  unfold gmk
  simp (disch := decide) only [u_n1, u_eq, and_self]
theorem gmk_FR {V : zM} {h so fr up sg : Int} : FR h V (gmk V h so fr up sg) := by
  intro b j hb hj
  by_cases e : 53 ≤ b ∧ b ≤ 60
  · have := hj e
    exact gmk_ne (by omega)
  · unfold gmk
    simp (disch := omega) only [u_n1]
theorem gmk_RES {V : zM} {h so fr up sg : Int} (h0 : 0 ≤ h) : RES h V (h + 1) (gmk V h so fr up sg) h (mkN so fr up sg []) [h] := by
  obtain ⟨e1, e2, e3, e4, e5, e6, e7, e8⟩ := gmk_at (V := V) (h := h) (so := so) (fr := fr) (up := up) (sg := sg)
  refine ⟨⟨so, fr, up, sg, [], [], h0, e1, e2, e3, e4, by rw [e6]; exact fo_nil, rfl, rfl, by simp⟩, ?_, gmk_FR, e8⟩
  intro i hi
  have := List.mem_singleton.mp hi
  omega
theorem gmk_OPN {V : zM} {h so fr up sg : Int} (h0 : 0 ≤ h) : OPN h V (gmk V h so fr up sg) h so fr sg [] (h + 1) := by
  obtain ⟨e1, e2, e3, e4, e5, e6, e7, e8⟩ := gmk_at (V := V) (h := h) (so := so) (fr := fr) (up := up) (sg := sg)
  refine ⟨⟨h0, e1, e2, e4, e6, e7, trivial, fun _ hk => absurd hk List.not_mem_nil, by simp [ids], e8⟩, ?_, gmk_FR⟩
  intro i hi
  have := List.mem_singleton.mp hi
  omega
/-- a child more, in what is thought -/
def hgV (V : zM) (x y : Int) (ks : List zK) : zM := z_upd (z_upd (z_upd (z_upd V (if ks = [] then 58 else 60) (if ks = [] then x else lst ks) y) 59 x y) 57 y x) 60 y (-1)
theorem hg_op {V : zM} {x so fr sg y : Int} {ks : List zK} {τ : List zN} {I : List Int} (ho : op V x so fr sg ks) (ht : tr V y τ I) (hnd : (x :: (ids ks ++ I)).Nodup) : op (hgV V x y ks) x so fr sg (ks ++ [(y, τ, I)]) := by
  have hxy : x ≠ y := fun e => (List.nodup_cons.mp hnd).1 (List.mem_append_right _ (e ▸ (tr_mem ht).1))
  unfold hgV
  by_cases hks : ks = []
  · subst hks
    rw [if_pos rfl, if_pos rfl]
    refine op_hang ho ht hnd ?_ ?_ ?_ ?_ (fun e => absurd rfl e) ?_ ?_ ?_ ?_
    · rw [if_pos rfl]; simp (disch := decide) only [u_n1, u_n2, u_eq]
    · simp (disch := decide) only [u_n1, u_n2, u_eq]
    · simp (disch := decide) only [u_n1, u_n2, u_eq]
    · simp (disch := decide) only [u_n1, u_n2, u_eq]
    · intro b j _ _ _ _ _ _; simp (disch := assumption) only [u_n1]
    · intro j hj; simp (disch := first | decide | assumption) only [u_n1, u_n2]
    · intro j hj; simp (disch := first | decide | assumption) only [u_n1, u_n2]
    · intro j hj _; simp (disch := first | decide | assumption) only [u_n1, u_n2]
  · rw [if_neg hks, if_neg hks]
    obtain ⟨q, hq, e2⟩ := lst_mem ks hks
    have hql : lst ks ∈ ids ks := by rw [← e2]; exact ids_mem hq (tr_mem (ho.2.2.2.2.2.2.2.1 q hq)).1
    have hly : lst ks ≠ y := fun e => (List.nodup_append.mp (List.nodup_cons.mp hnd).2).2.2 _ hql _ (tr_mem ht).1 e
    refine op_hang ho ht hnd ?_ ?_ ?_ ?_ (fun _ => ?_) ?_ ?_ ?_ ?_
    · rw [if_neg hks]; simp (disch := decide) only [u_n1, u_n2, u_eq]
    · simp (disch := decide) only [u_n1, u_n2, u_eq]
    · simp (disch := decide) only [u_n1, u_n2, u_eq]
    · simp (disch := decide) only [u_n1, u_n2, u_eq]
    · simp (disch := first | decide | assumption) only [u_n1, u_n2, u_eq]
    · intro b j _ _ _ _ _ _; simp (disch := assumption) only [u_n1]
    · intro j hj; simp (disch := first | decide | assumption) only [u_n1, u_n2]
    · intro j hj; simp (disch := first | decide | assumption) only [u_n1, u_n2]
    · intro j hj _; simp (disch := first | decide | assumption) only [u_n1, u_n2]
theorem hg_FR {V : zM} {x y lo : Int} {ks : List zK} (hx : lo ≤ x) (hy : lo ≤ y) (hl : ks ≠ [] → lo ≤ lst ks) : FR lo V (hgV V x y ks) := by
  intro b j hb hj
  unfold hgV
  by_cases e : 53 ≤ b ∧ b ≤ 60
  · have := hj e
    by_cases hks : ks = []
    · simp only [hks, if_true]
      simp (disch := omega) only [u_n2]
    · have := hl hks
      simp only [hks, if_false]
      simp (disch := omega) only [u_n2]
  · by_cases hks : ks = []
    · simp only [hks, if_true]
      simp (disch := omega) only [u_n1]
    · simp only [hks, if_false]
      simp (disch := omega) only [u_n1]
/-- the draft is whole, in what is thought -/
theorem g_shut {V V0 : zM} {lo h x so fr sg up : Int} {ks : List zK} (hO : OPN lo V0 V x so fr sg ks h) : RES lo V0 h (z_upd V 55 x up) x (mkN so fr up sg (trs ks)) (x :: ids ks) := by
  obtain ⟨ho, hin, hF0⟩ := hO
  have hx := hin x (List.mem_cons_self ..)
  have hF : FR lo V (z_upd V 55 x up) := by
    intro b j hb hj
    by_cases e : 53 ≤ b ∧ b ≤ 60
    · have := hj e
      exact u_n2 (by omega)
    · exact u_n1 (by omega)
  have ho2 : op (z_upd V 55 x up) x so fr sg ks := op_fr ho (fun j hj b b1 b2 hb => by
    by_cases e : j = x
    · exact u_n1 (hb e).1
    · exact u_n2 e)
  exact ⟨op_tr ho2 u_eq, hin, FR_tr hF0 hF (Int.le_refl _), ho2.2.2.2.2.2.2.2.2.2⟩
theorem KS_55 {t : List Int} {h a op ne rl x up : Int} {V M : zM} (hK : KS t h a op ne rl V M) : KS t h a op ne rl (z_upd V 55 x up) M := ⟨hK.1, hK.2.1, fun y y0 y1 => GN_fr (hK.2.2.1 y y0 y1) (fun _ _ _ => rfl) (fun b _ _ hb => u_n1 hb), hK.2.2.2⟩
/-- what is next, by the reference's rows -/
theorem sgn_iff {t : List Int} {a sg : Int} (h0 : 0 ≤ a) (hs : 40 ≤ sg) : sgn (toks t) a = sg ↔ (a < ((toks t).length : Int) ∧ (tk (toks t) a).1 = 3 ∧ tb t (tk (toks t) a).2.1 = sg) := by
  by_cases h : a < ((toks t).length : Int)
  · obtain ⟨-, h1 | h1 | h1 | h1 | h1⟩ := tq_at ⟨h0, h⟩
    · have := key_rng t (tk (toks t) a).2.1 (tk (toks t) a).2.2.1
      exact ⟨fun z => by unfold sgn at z; omega, fun z => by omega⟩
    · exact ⟨fun z => by unfold sgn at z; omega, fun z => by omega⟩
    · exact ⟨fun z => by unfold sgn at z; omega, fun z => by omega⟩
    · exact ⟨fun z => ⟨h, h1.1, by rw [← h1.2.1]; exact z⟩, fun z => by unfold sgn; rw [h1.2.1]; exact z.2.2⟩
    · exact ⟨fun z => by unfold sgn at z; omega, fun z => by omega⟩
  · exact ⟨fun z => by unfold sgn at z; rw [tk_out (by omega)] at z; have : t0.2.2.2.2 = 0 := rfl; omega, fun z => absurd z.1 h⟩
theorem srt_iff {t : List Int} {a so : Int} (h0 : 0 ≤ a) (hs : 0 ≤ so) : srt (toks t) a = so ↔ (a < ((toks t).length : Int) ∧ (tk (toks t) a).1 = so) := by
  by_cases h : a < ((toks t).length : Int)
  · exact ⟨fun z => ⟨h, z⟩, fun z => z.2⟩
  · exact ⟨fun z => by unfold srt at z; rw [tk_out (by omega)] at z; have : t0.1 = -1 := rfl; omega, fun z => absurd z.1 h⟩
section RP
variable {L d : Nat} {M V V0 : zM} {Q : Option zV → zM → Prop} {t : List Int} {h a op_ ne rl lo : Int}
theorem R_isNext {sg : Int} (hK : KS t h a op_ ne rl V M) (hs : 40 ≤ sg) (k : Q (some (0, if sgn (toks t) a = sg then 1 else 0)) M) : v_call L d 194 [(2, 77), (0, sg)] M Q := by
  obtain ⟨⟨hX, hR⟩, ⟨p1, p2, p3, p4, p5⟩, -, r1, r2, r3, r4⟩ := hK
  have hl := hR.2.1
  have hxl := hX.2.1
  have hi := sgn_iff (t := t) r3 hs
  have p6 := hR.1
  refine v_in ?_
  refine v_load rfl rfl ⟨rfl, Nat.le_of_ble_eq_true rfl⟩ ?_
  refine v_getx rfl rfl p2 ?_
  refine v_load rfl rfl ⟨rfl, Nat.le_of_ble_eq_true rfl⟩ ?_
  refine v_getx rfl rfl p6 ?_
  refine v_ige rfl (fun c1 => ?_) (fun c1 => ?_)
  · refine v_push rfl ?_
    refine v_ret rfl rfl ?_
    rw [if_neg (fun z => by have := hi.mp z; omega)] at k
    exact k
  · have hr := RR_at hR ⟨r3, c1⟩
    have hq := (tq_at ⟨r3, c1⟩).1
    refine v_load rfl rfl ⟨rfl, Nat.le_of_ble_eq_true rfl⟩ ?_
    refine v_getp rfl rfl rfl ?_
    refine v_load rfl rfl ⟨rfl, Nat.le_of_ble_eq_true rfl⟩ ?_
    refine v_getx rfl rfl p2 ?_
    refine v_ald9 rfl rfl ⟨by omega, by show _ < (300 : Int); omega⟩ ?_
    refine v_push rfl ?_
    refine v_ine rfl (fun c2 => ?_) (fun c2 => ?_)
    · refine v_push rfl ?_
      refine v_ret rfl rfl ?_
      rw [if_neg (fun z => by have := hi.mp z; omega)] at k
      exact k
    · refine v_load rfl rfl ⟨rfl, Nat.le_of_ble_eq_true rfl⟩ ?_
      refine v_getp rfl rfl rfl ?_
      refine v_load rfl rfl ⟨rfl, Nat.le_of_ble_eq_true rfl⟩ ?_
      refine v_getp rfl rfl rfl ?_
      refine v_load rfl rfl ⟨rfl, Nat.le_of_ble_eq_true rfl⟩ ?_
      refine v_getx rfl rfl p2 ?_
      refine v_ald9 rfl rfl ⟨by omega, by show _ < (300 : Int); omega⟩ ?_
      refine v_ald9 rfl rfl ⟨by omega, by show _ < (300 : Int); omega⟩ ?_
      rw [hr.2.1, RX_at hX ⟨by omega, by omega⟩]
      refine v_load rfl rfl ⟨rfl, Nat.le_of_ble_eq_true rfl⟩ ?_
      refine v_ine rfl (fun c3 => ?_) (fun c3 => ?_)
      · refine v_push rfl ?_
        refine v_ret rfl rfl ?_
        rw [if_neg (fun z => by have := hi.mp z; omega)] at k
        exact k
      · refine v_push rfl ?_
        refine v_goto rfl ?_
        refine v_ret rfl rfl ?_
        rw [if_pos (hi.mpr ⟨c1, by omega, c3⟩)] at k
        exact k
theorem R_isBehind {sg : Int} (hK : KS t h a op_ ne rl V M) (hs : 40 ≤ sg) (k : Q (some (0, if sgn (toks t) (a + 1) = sg then 1 else 0)) M) : v_call L d 195 [(2, 77), (0, sg)] M Q := by
  obtain ⟨⟨hX, hR⟩, ⟨p1, p2, p3, p4, p5⟩, -, r1, r2, r3, r4⟩ := hK
  have hl := hR.2.1
  have hxl := hX.2.1
  have r5 : 0 ≤ a + 1 := by omega
  have hi := sgn_iff (t := t) r5 hs
  have p6 := hR.1
  refine v_in ?_
  refine v_load rfl rfl ⟨rfl, Nat.le_of_ble_eq_true rfl⟩ ?_
  refine v_getx rfl rfl p2 ?_
  refine v_push rfl ?_
  refine v_add rfl (by omega) ?_
  refine v_load rfl rfl ⟨rfl, Nat.le_of_ble_eq_true rfl⟩ ?_
  refine v_getx rfl rfl p6 ?_
  refine v_ige rfl (fun c1 => ?_) (fun c1 => ?_)
  · refine v_push rfl ?_
    refine v_ret rfl rfl ?_
    rw [if_neg (fun z => by have := hi.mp z; omega)] at k
    exact k
  · have hr := RR_at hR ⟨r5, c1⟩
    have hq := (tq_at ⟨r5, c1⟩).1
    refine v_load rfl rfl ⟨rfl, Nat.le_of_ble_eq_true rfl⟩ ?_
    refine v_getp rfl rfl rfl ?_
    refine v_load rfl rfl ⟨rfl, Nat.le_of_ble_eq_true rfl⟩ ?_
    refine v_getx rfl rfl p2 ?_
    refine v_push rfl ?_
    refine v_add rfl (by omega) ?_
    refine v_ald9 rfl rfl ⟨by omega, by show _ < (300 : Int); omega⟩ ?_
    refine v_push rfl ?_
    refine v_ine rfl (fun c2 => ?_) (fun c2 => ?_)
    · refine v_push rfl ?_
      refine v_ret rfl rfl ?_
      rw [if_neg (fun z => by have := hi.mp z; omega)] at k
      exact k
    · refine v_load rfl rfl ⟨rfl, Nat.le_of_ble_eq_true rfl⟩ ?_
      refine v_getp rfl rfl rfl ?_
      refine v_load rfl rfl ⟨rfl, Nat.le_of_ble_eq_true rfl⟩ ?_
      refine v_getp rfl rfl rfl ?_
      refine v_load rfl rfl ⟨rfl, Nat.le_of_ble_eq_true rfl⟩ ?_
      refine v_getx rfl rfl p2 ?_
      refine v_push rfl ?_
      refine v_add rfl (by omega) ?_
      refine v_ald9 rfl rfl ⟨by omega, by show _ < (300 : Int); omega⟩ ?_
      refine v_ald9 rfl rfl ⟨by omega, by show _ < (300 : Int); omega⟩ ?_
      rw [hr.2.1, RX_at hX ⟨by omega, by omega⟩]
      refine v_load rfl rfl ⟨rfl, Nat.le_of_ble_eq_true rfl⟩ ?_
      refine v_ine rfl (fun c3 => ?_) (fun c3 => ?_)
      · refine v_push rfl ?_
        refine v_ret rfl rfl ?_
        rw [if_neg (fun z => by have := hi.mp z; omega)] at k
        exact k
      · refine v_push rfl ?_
        refine v_goto rfl ?_
        refine v_ret rfl rfl ?_
        rw [if_pos (hi.mpr ⟨c1, by omega, c3⟩)] at k
        exact k
theorem R_isWord (hK : KS t h a op_ ne rl V M) (k : Q (some (0, if srt (toks t) a = 0 then 1 else 0)) M) : v_call L d 198 [(2, 77)] M Q := by
  obtain ⟨⟨hX, hR⟩, ⟨p1, p2, p3, p4, p5⟩, -, r1, r2, r3, r4⟩ := hK
  have hl := hR.2.1
  have hi := srt_iff (t := t) (so := 0) r3 (by decide)
  have p6 := hR.1
  refine v_in ?_
  refine v_load rfl rfl ⟨rfl, Nat.le_of_ble_eq_true rfl⟩ ?_
  refine v_getx rfl rfl p2 ?_
  refine v_load rfl rfl ⟨rfl, Nat.le_of_ble_eq_true rfl⟩ ?_
  refine v_getx rfl rfl p6 ?_
  refine v_ige rfl (fun c1 => ?_) (fun c1 => ?_)
  · refine v_push rfl ?_
    refine v_ret rfl rfl ?_
    rw [if_neg (fun z => by have := hi.mp z; omega)] at k
    exact k
  · have hr := RR_at hR ⟨r3, c1⟩
    refine v_load rfl rfl ⟨rfl, Nat.le_of_ble_eq_true rfl⟩ ?_
    refine v_getp rfl rfl rfl ?_
    refine v_load rfl rfl ⟨rfl, Nat.le_of_ble_eq_true rfl⟩ ?_
    refine v_getx rfl rfl p2 ?_
    refine v_ald9 rfl rfl ⟨by omega, by show _ < (300 : Int); omega⟩ ?_
    refine v_ifne rfl (fun c2 => ?_) (fun c2 => ?_)
    · refine v_push rfl ?_
      refine v_ret rfl rfl ?_
      rw [if_neg (fun z => by have := hi.mp z; omega)] at k
      exact k
    · refine v_push rfl ?_
      refine v_goto rfl ?_
      refine v_ret rfl rfl ?_
      rw [if_pos (hi.mpr ⟨c1, by omega⟩)] at k
      exact k
theorem R_keyOf78 {l : List Int} {f n : Int} (hl : l.length ≤ 300) (hM : ∀ i, 0 ≤ i → i < (l.length : Int) → M 78 i = tb l i) (h0 : 0 ≤ f ∧ 0 ≤ n ∧ f + n ≤ (l.length : Int)) (k : Q (some (0, key l f (f + n))) M) : v_call L d 196 [(2, 78), (0, f), (0, n)] M Q := by
  have hkey : key l f (f + n) = if n = 2 ∧ M 78 f = 105 ∧ M 78 (f + 1) = 102 then 1 else if n = 4 ∧ M 78 f = 101 ∧ M 78 (f + 1) = 108 ∧ M 78 (f + 2) = 115 ∧ M 78 (f + 3) = 101 then 2 else if n = 5 ∧ M 78 f = 119 ∧ M 78 (f + 1) = 104 ∧ M 78 (f + 2) = 105 ∧ M 78 (f + 3) = 108 ∧ M 78 (f + 4) = 101 then 3 else 0 := by
    unfold key
    simp only [spF, Bool.and_eq_true, decide_eq_true_eq, and_true, show f + n - f = n by omega, Int.add_assoc, show (1 : Int) + 1 = 2 from rfl, show (1 : Int) + 2 = 3 from rfl, show (2 : Int) + 1 = 3 from rfl, show (3 : Int) + 1 = 4 from rfl, show (1 : Int) + 3 = 4 from rfl, show (1 : Int) + (1 + 1) = 3 from rfl, show (1 : Int) + (1 + (1 + 1)) = 4 from rfl]
    by_cases n2 : n = 2
    · rw [hM f (by omega) (by omega), hM (f + 1) (by omega) (by omega)]
      simp only [n2, show ¬ (2 : Int) = 4 by decide, show ¬ (2 : Int) = 5 by decide, false_and, if_false]
    · by_cases n4 : n = 4
      · rw [hM f (by omega) (by omega), hM (f + 1) (by omega) (by omega), hM (f + 2) (by omega) (by omega), hM (f + 3) (by omega) (by omega)]
        simp only [n4, show ¬ (4 : Int) = 2 by decide, show ¬ (4 : Int) = 5 by decide, false_and, if_false]
      · by_cases n5 : n = 5
        · rw [hM f (by omega) (by omega), hM (f + 1) (by omega) (by omega), hM (f + 2) (by omega) (by omega), hM (f + 3) (by omega) (by omega), hM (f + 4) (by omega) (by omega)]
        · simp only [n2, n4, n5, false_and, if_false]
  refine v_in ?_
  refine v_load rfl rfl ⟨rfl, Nat.le_of_ble_eq_true rfl⟩ ?_
  refine v_push rfl ?_
  refine v_ine rfl (fun c1 => ?_) (fun c1 => ?_)
  · refine v_load rfl rfl ⟨rfl, Nat.le_of_ble_eq_true rfl⟩ ?_
    refine v_push rfl ?_
    refine v_ine rfl (fun c2 => ?_) (fun c2 => ?_)
    · refine v_load rfl rfl ⟨rfl, Nat.le_of_ble_eq_true rfl⟩ ?_
      refine v_push rfl ?_
      refine v_ieq rfl (fun c3 => ?_) (fun c3 => ?_)
      · refine v_load rfl rfl ⟨rfl, Nat.le_of_ble_eq_true rfl⟩ ?_
        refine v_load rfl rfl ⟨rfl, Nat.le_of_ble_eq_true rfl⟩ ?_
        refine v_ald9 rfl rfl ⟨by omega, by show _ < (300 : Int); omega⟩ ?_
        refine v_push rfl ?_
        refine v_ine rfl (fun c4 => ?_) (fun c4 => ?_)
        · refine v_push rfl ?_
          refine v_ret rfl rfl ?_
          exact qeq k (by rw [hkey]; repeat' split; all_goals omega)
        · refine v_load rfl rfl ⟨rfl, Nat.le_of_ble_eq_true rfl⟩ ?_
          refine v_load rfl rfl ⟨rfl, Nat.le_of_ble_eq_true rfl⟩ ?_
          refine v_push rfl ?_
          refine v_add rfl (by omega) ?_
          refine v_ald9 rfl rfl ⟨by omega, by show _ < (300 : Int); omega⟩ ?_
          refine v_push rfl ?_
          refine v_ine rfl (fun c5 => ?_) (fun c5 => ?_)
          · refine v_push rfl ?_
            refine v_ret rfl rfl ?_
            exact qeq k (by rw [hkey]; repeat' split; all_goals omega)
          · refine v_load rfl rfl ⟨rfl, Nat.le_of_ble_eq_true rfl⟩ ?_
            refine v_load rfl rfl ⟨rfl, Nat.le_of_ble_eq_true rfl⟩ ?_
            refine v_push rfl ?_
            refine v_add rfl (by omega) ?_
            refine v_ald9 rfl rfl ⟨by omega, by show _ < (300 : Int); omega⟩ ?_
            refine v_push rfl ?_
            refine v_ine rfl (fun c6 => ?_) (fun c6 => ?_)
            · refine v_push rfl ?_
              refine v_ret rfl rfl ?_
              exact qeq k (by rw [hkey]; repeat' split; all_goals omega)
            · refine v_load rfl rfl ⟨rfl, Nat.le_of_ble_eq_true rfl⟩ ?_
              refine v_load rfl rfl ⟨rfl, Nat.le_of_ble_eq_true rfl⟩ ?_
              refine v_push rfl ?_
              refine v_add rfl (by omega) ?_
              refine v_ald9 rfl rfl ⟨by omega, by show _ < (300 : Int); omega⟩ ?_
              refine v_push rfl ?_
              refine v_ine rfl (fun c7 => ?_) (fun c7 => ?_)
              · refine v_push rfl ?_
                refine v_ret rfl rfl ?_
                exact qeq k (by rw [hkey]; repeat' split; all_goals omega)
              · refine v_load rfl rfl ⟨rfl, Nat.le_of_ble_eq_true rfl⟩ ?_
                refine v_load rfl rfl ⟨rfl, Nat.le_of_ble_eq_true rfl⟩ ?_
                refine v_push rfl ?_
                refine v_add rfl (by omega) ?_
                refine v_ald9 rfl rfl ⟨by omega, by show _ < (300 : Int); omega⟩ ?_
                refine v_push rfl ?_
                refine v_ine rfl (fun c8 => ?_) (fun c8 => ?_)
                · refine v_push rfl ?_
                  refine v_ret rfl rfl ?_
                  exact qeq k (by rw [hkey]; repeat' split; all_goals omega)
                · refine v_push rfl ?_
                  refine v_goto rfl ?_
                  refine v_ret rfl rfl ?_
                  exact qeq k (by rw [hkey]; repeat' split; all_goals omega)
      · refine v_push rfl ?_
        refine v_ret rfl rfl ?_
        exact qeq k (by rw [hkey]; repeat' split; all_goals omega)
    · refine v_load rfl rfl ⟨rfl, Nat.le_of_ble_eq_true rfl⟩ ?_
      refine v_load rfl rfl ⟨rfl, Nat.le_of_ble_eq_true rfl⟩ ?_
      refine v_ald9 rfl rfl ⟨by omega, by show _ < (300 : Int); omega⟩ ?_
      refine v_push rfl ?_
      refine v_ine rfl (fun c9 => ?_) (fun c9 => ?_)
      · refine v_push rfl ?_
        refine v_ret rfl rfl ?_
        exact qeq k (by rw [hkey]; repeat' split; all_goals omega)
      · refine v_load rfl rfl ⟨rfl, Nat.le_of_ble_eq_true rfl⟩ ?_
        refine v_load rfl rfl ⟨rfl, Nat.le_of_ble_eq_true rfl⟩ ?_
        refine v_push rfl ?_
        refine v_add rfl (by omega) ?_
        refine v_ald9 rfl rfl ⟨by omega, by show _ < (300 : Int); omega⟩ ?_
        refine v_push rfl ?_
        refine v_ine rfl (fun c10 => ?_) (fun c10 => ?_)
        · refine v_push rfl ?_
          refine v_ret rfl rfl ?_
          exact qeq k (by rw [hkey]; repeat' split; all_goals omega)
        · refine v_load rfl rfl ⟨rfl, Nat.le_of_ble_eq_true rfl⟩ ?_
          refine v_load rfl rfl ⟨rfl, Nat.le_of_ble_eq_true rfl⟩ ?_
          refine v_push rfl ?_
          refine v_add rfl (by omega) ?_
          refine v_ald9 rfl rfl ⟨by omega, by show _ < (300 : Int); omega⟩ ?_
          refine v_push rfl ?_
          refine v_ine rfl (fun c11 => ?_) (fun c11 => ?_)
          · refine v_push rfl ?_
            refine v_ret rfl rfl ?_
            exact qeq k (by rw [hkey]; repeat' split; all_goals omega)
          · refine v_load rfl rfl ⟨rfl, Nat.le_of_ble_eq_true rfl⟩ ?_
            refine v_load rfl rfl ⟨rfl, Nat.le_of_ble_eq_true rfl⟩ ?_
            refine v_push rfl ?_
            refine v_add rfl (by omega) ?_
            refine v_ald9 rfl rfl ⟨by omega, by show _ < (300 : Int); omega⟩ ?_
            refine v_push rfl ?_
            refine v_ine rfl (fun c12 => ?_) (fun c12 => ?_)
            · refine v_push rfl ?_
              refine v_ret rfl rfl ?_
              exact qeq k (by rw [hkey]; repeat' split; all_goals omega)
            · refine v_push rfl ?_
              refine v_goto rfl ?_
              refine v_ret rfl rfl ?_
              exact qeq k (by rw [hkey]; repeat' split; all_goals omega)
  · refine v_load rfl rfl ⟨rfl, Nat.le_of_ble_eq_true rfl⟩ ?_
    refine v_load rfl rfl ⟨rfl, Nat.le_of_ble_eq_true rfl⟩ ?_
    refine v_ald9 rfl rfl ⟨by omega, by show _ < (300 : Int); omega⟩ ?_
    refine v_push rfl ?_
    refine v_ine rfl (fun c13 => ?_) (fun c13 => ?_)
    · refine v_push rfl ?_
      refine v_ret rfl rfl ?_
      exact qeq k (by rw [hkey]; repeat' split; all_goals omega)
    · refine v_load rfl rfl ⟨rfl, Nat.le_of_ble_eq_true rfl⟩ ?_
      refine v_load rfl rfl ⟨rfl, Nat.le_of_ble_eq_true rfl⟩ ?_
      refine v_push rfl ?_
      refine v_add rfl (by omega) ?_
      refine v_ald9 rfl rfl ⟨by omega, by show _ < (300 : Int); omega⟩ ?_
      refine v_push rfl ?_
      refine v_ine rfl (fun c14 => ?_) (fun c14 => ?_)
      · refine v_push rfl ?_
        refine v_ret rfl rfl ?_
        exact qeq k (by rw [hkey]; repeat' split; all_goals omega)
      · refine v_push rfl ?_
        refine v_goto rfl ?_
        refine v_ret rfl rfl ?_
        exact qeq k (by rw [hkey]; repeat' split; all_goals omega)
theorem R_keyOf79 {l : List Int} {f n : Int} (hl : l.length ≤ 300) (hM : ∀ i, 0 ≤ i → i < (l.length : Int) → M 79 i = tb l i) (h0 : 0 ≤ f ∧ 0 ≤ n ∧ f + n ≤ (l.length : Int)) (k : Q (some (0, key l f (f + n))) M) : v_call L d 196 [(2, 79), (0, f), (0, n)] M Q := by
  have hkey : key l f (f + n) = if n = 2 ∧ M 79 f = 105 ∧ M 79 (f + 1) = 102 then 1 else if n = 4 ∧ M 79 f = 101 ∧ M 79 (f + 1) = 108 ∧ M 79 (f + 2) = 115 ∧ M 79 (f + 3) = 101 then 2 else if n = 5 ∧ M 79 f = 119 ∧ M 79 (f + 1) = 104 ∧ M 79 (f + 2) = 105 ∧ M 79 (f + 3) = 108 ∧ M 79 (f + 4) = 101 then 3 else 0 := by
    unfold key
    simp only [spF, Bool.and_eq_true, decide_eq_true_eq, and_true, show f + n - f = n by omega, Int.add_assoc, show (1 : Int) + 1 = 2 from rfl, show (1 : Int) + 2 = 3 from rfl, show (2 : Int) + 1 = 3 from rfl, show (3 : Int) + 1 = 4 from rfl, show (1 : Int) + 3 = 4 from rfl, show (1 : Int) + (1 + 1) = 3 from rfl, show (1 : Int) + (1 + (1 + 1)) = 4 from rfl]
    by_cases n2 : n = 2
    · rw [hM f (by omega) (by omega), hM (f + 1) (by omega) (by omega)]
      simp only [n2, show ¬ (2 : Int) = 4 by decide, show ¬ (2 : Int) = 5 by decide, false_and, if_false]
    · by_cases n4 : n = 4
      · rw [hM f (by omega) (by omega), hM (f + 1) (by omega) (by omega), hM (f + 2) (by omega) (by omega), hM (f + 3) (by omega) (by omega)]
        simp only [n4, show ¬ (4 : Int) = 2 by decide, show ¬ (4 : Int) = 5 by decide, false_and, if_false]
      · by_cases n5 : n = 5
        · rw [hM f (by omega) (by omega), hM (f + 1) (by omega) (by omega), hM (f + 2) (by omega) (by omega), hM (f + 3) (by omega) (by omega), hM (f + 4) (by omega) (by omega)]
        · simp only [n2, n4, n5, false_and, if_false]
  refine v_in ?_
  refine v_load rfl rfl ⟨rfl, Nat.le_of_ble_eq_true rfl⟩ ?_
  refine v_push rfl ?_
  refine v_ine rfl (fun c15 => ?_) (fun c15 => ?_)
  · refine v_load rfl rfl ⟨rfl, Nat.le_of_ble_eq_true rfl⟩ ?_
    refine v_push rfl ?_
    refine v_ine rfl (fun c16 => ?_) (fun c16 => ?_)
    · refine v_load rfl rfl ⟨rfl, Nat.le_of_ble_eq_true rfl⟩ ?_
      refine v_push rfl ?_
      refine v_ieq rfl (fun c17 => ?_) (fun c17 => ?_)
      · refine v_load rfl rfl ⟨rfl, Nat.le_of_ble_eq_true rfl⟩ ?_
        refine v_load rfl rfl ⟨rfl, Nat.le_of_ble_eq_true rfl⟩ ?_
        refine v_ald9 rfl rfl ⟨by omega, by show _ < (300 : Int); omega⟩ ?_
        refine v_push rfl ?_
        refine v_ine rfl (fun c18 => ?_) (fun c18 => ?_)
        · refine v_push rfl ?_
          refine v_ret rfl rfl ?_
          exact qeq k (by rw [hkey]; repeat' split; all_goals omega)
        · refine v_load rfl rfl ⟨rfl, Nat.le_of_ble_eq_true rfl⟩ ?_
          refine v_load rfl rfl ⟨rfl, Nat.le_of_ble_eq_true rfl⟩ ?_
          refine v_push rfl ?_
          refine v_add rfl (by omega) ?_
          refine v_ald9 rfl rfl ⟨by omega, by show _ < (300 : Int); omega⟩ ?_
          refine v_push rfl ?_
          refine v_ine rfl (fun c19 => ?_) (fun c19 => ?_)
          · refine v_push rfl ?_
            refine v_ret rfl rfl ?_
            exact qeq k (by rw [hkey]; repeat' split; all_goals omega)
          · refine v_load rfl rfl ⟨rfl, Nat.le_of_ble_eq_true rfl⟩ ?_
            refine v_load rfl rfl ⟨rfl, Nat.le_of_ble_eq_true rfl⟩ ?_
            refine v_push rfl ?_
            refine v_add rfl (by omega) ?_
            refine v_ald9 rfl rfl ⟨by omega, by show _ < (300 : Int); omega⟩ ?_
            refine v_push rfl ?_
            refine v_ine rfl (fun c20 => ?_) (fun c20 => ?_)
            · refine v_push rfl ?_
              refine v_ret rfl rfl ?_
              exact qeq k (by rw [hkey]; repeat' split; all_goals omega)
            · refine v_load rfl rfl ⟨rfl, Nat.le_of_ble_eq_true rfl⟩ ?_
              refine v_load rfl rfl ⟨rfl, Nat.le_of_ble_eq_true rfl⟩ ?_
              refine v_push rfl ?_
              refine v_add rfl (by omega) ?_
              refine v_ald9 rfl rfl ⟨by omega, by show _ < (300 : Int); omega⟩ ?_
              refine v_push rfl ?_
              refine v_ine rfl (fun c21 => ?_) (fun c21 => ?_)
              · refine v_push rfl ?_
                refine v_ret rfl rfl ?_
                exact qeq k (by rw [hkey]; repeat' split; all_goals omega)
              · refine v_load rfl rfl ⟨rfl, Nat.le_of_ble_eq_true rfl⟩ ?_
                refine v_load rfl rfl ⟨rfl, Nat.le_of_ble_eq_true rfl⟩ ?_
                refine v_push rfl ?_
                refine v_add rfl (by omega) ?_
                refine v_ald9 rfl rfl ⟨by omega, by show _ < (300 : Int); omega⟩ ?_
                refine v_push rfl ?_
                refine v_ine rfl (fun c22 => ?_) (fun c22 => ?_)
                · refine v_push rfl ?_
                  refine v_ret rfl rfl ?_
                  exact qeq k (by rw [hkey]; repeat' split; all_goals omega)
                · refine v_push rfl ?_
                  refine v_goto rfl ?_
                  refine v_ret rfl rfl ?_
                  exact qeq k (by rw [hkey]; repeat' split; all_goals omega)
      · refine v_push rfl ?_
        refine v_ret rfl rfl ?_
        exact qeq k (by rw [hkey]; repeat' split; all_goals omega)
    · refine v_load rfl rfl ⟨rfl, Nat.le_of_ble_eq_true rfl⟩ ?_
      refine v_load rfl rfl ⟨rfl, Nat.le_of_ble_eq_true rfl⟩ ?_
      refine v_ald9 rfl rfl ⟨by omega, by show _ < (300 : Int); omega⟩ ?_
      refine v_push rfl ?_
      refine v_ine rfl (fun c23 => ?_) (fun c23 => ?_)
      · refine v_push rfl ?_
        refine v_ret rfl rfl ?_
        exact qeq k (by rw [hkey]; repeat' split; all_goals omega)
      · refine v_load rfl rfl ⟨rfl, Nat.le_of_ble_eq_true rfl⟩ ?_
        refine v_load rfl rfl ⟨rfl, Nat.le_of_ble_eq_true rfl⟩ ?_
        refine v_push rfl ?_
        refine v_add rfl (by omega) ?_
        refine v_ald9 rfl rfl ⟨by omega, by show _ < (300 : Int); omega⟩ ?_
        refine v_push rfl ?_
        refine v_ine rfl (fun c24 => ?_) (fun c24 => ?_)
        · refine v_push rfl ?_
          refine v_ret rfl rfl ?_
          exact qeq k (by rw [hkey]; repeat' split; all_goals omega)
        · refine v_load rfl rfl ⟨rfl, Nat.le_of_ble_eq_true rfl⟩ ?_
          refine v_load rfl rfl ⟨rfl, Nat.le_of_ble_eq_true rfl⟩ ?_
          refine v_push rfl ?_
          refine v_add rfl (by omega) ?_
          refine v_ald9 rfl rfl ⟨by omega, by show _ < (300 : Int); omega⟩ ?_
          refine v_push rfl ?_
          refine v_ine rfl (fun c25 => ?_) (fun c25 => ?_)
          · refine v_push rfl ?_
            refine v_ret rfl rfl ?_
            exact qeq k (by rw [hkey]; repeat' split; all_goals omega)
          · refine v_load rfl rfl ⟨rfl, Nat.le_of_ble_eq_true rfl⟩ ?_
            refine v_load rfl rfl ⟨rfl, Nat.le_of_ble_eq_true rfl⟩ ?_
            refine v_push rfl ?_
            refine v_add rfl (by omega) ?_
            refine v_ald9 rfl rfl ⟨by omega, by show _ < (300 : Int); omega⟩ ?_
            refine v_push rfl ?_
            refine v_ine rfl (fun c26 => ?_) (fun c26 => ?_)
            · refine v_push rfl ?_
              refine v_ret rfl rfl ?_
              exact qeq k (by rw [hkey]; repeat' split; all_goals omega)
            · refine v_push rfl ?_
              refine v_goto rfl ?_
              refine v_ret rfl rfl ?_
              exact qeq k (by rw [hkey]; repeat' split; all_goals omega)
  · refine v_load rfl rfl ⟨rfl, Nat.le_of_ble_eq_true rfl⟩ ?_
    refine v_load rfl rfl ⟨rfl, Nat.le_of_ble_eq_true rfl⟩ ?_
    refine v_ald9 rfl rfl ⟨by omega, by show _ < (300 : Int); omega⟩ ?_
    refine v_push rfl ?_
    refine v_ine rfl (fun c27 => ?_) (fun c27 => ?_)
    · refine v_push rfl ?_
      refine v_ret rfl rfl ?_
      exact qeq k (by rw [hkey]; repeat' split; all_goals omega)
    · refine v_load rfl rfl ⟨rfl, Nat.le_of_ble_eq_true rfl⟩ ?_
      refine v_load rfl rfl ⟨rfl, Nat.le_of_ble_eq_true rfl⟩ ?_
      refine v_push rfl ?_
      refine v_add rfl (by omega) ?_
      refine v_ald9 rfl rfl ⟨by omega, by show _ < (300 : Int); omega⟩ ?_
      refine v_push rfl ?_
      refine v_ine rfl (fun c28 => ?_) (fun c28 => ?_)
      · refine v_push rfl ?_
        refine v_ret rfl rfl ?_
        exact qeq k (by rw [hkey]; repeat' split; all_goals omega)
      · refine v_push rfl ?_
        refine v_goto rfl ?_
        refine v_ret rfl rfl ?_
        exact qeq k (by rw [hkey]; repeat' split; all_goals omega)
theorem R_keyNext (hK : KS t h a op_ ne rl V M) (k : Q (some (0, if srt (toks t) a = 0 then sgn (toks t) a else 0)) M) : v_call L (d + 1) 197 [(2, 77)] M Q := by
  obtain ⟨⟨hX, hR⟩, ⟨p1, p2, p3, p4, p5⟩, -, r1, r2, r3, r4⟩ := hK
  have hl := hR.2.1
  have hi := srt_iff (t := t) (so := 0) r3 (by decide)
  have p6 := hR.1
  refine v_in ?_
  refine v_load rfl rfl ⟨rfl, Nat.le_of_ble_eq_true rfl⟩ ?_
  refine v_getx rfl rfl p2 ?_
  refine v_load rfl rfl ⟨rfl, Nat.le_of_ble_eq_true rfl⟩ ?_
  refine v_getx rfl rfl p6 ?_
  refine v_ige rfl (fun c1 => ?_) (fun c1 => ?_)
  · refine v_push rfl ?_
    refine v_ret rfl rfl ?_
    rw [if_neg (fun z => by have := hi.mp z; omega)] at k
    exact k
  · have hr := RR_at hR ⟨r3, c1⟩
    have hq := tq_at ⟨r3, c1⟩
    have hq1 := hq.1
    refine v_load rfl rfl ⟨rfl, Nat.le_of_ble_eq_true rfl⟩ ?_
    refine v_getp rfl rfl rfl ?_
    refine v_load rfl rfl ⟨rfl, Nat.le_of_ble_eq_true rfl⟩ ?_
    refine v_getx rfl rfl p2 ?_
    refine v_ald9 rfl rfl ⟨by omega, by show _ < (300 : Int); omega⟩ ?_
    refine v_ifne rfl (fun c2 => ?_) (fun c2 => ?_)
    · refine v_push rfl ?_
      refine v_ret rfl rfl ?_
      rw [if_neg (fun z => by have := hi.mp z; omega)] at k
      exact k
    · refine v_load rfl rfl ⟨rfl, Nat.le_of_ble_eq_true rfl⟩ ?_
      refine v_getp rfl rfl rfl ?_
      refine v_load rfl rfl ⟨rfl, Nat.le_of_ble_eq_true rfl⟩ ?_
      refine v_getp rfl rfl rfl ?_
      refine v_load rfl rfl ⟨rfl, Nat.le_of_ble_eq_true rfl⟩ ?_
      refine v_getx rfl rfl p2 ?_
      refine v_ald9 rfl rfl ⟨by omega, by show _ < (300 : Int); omega⟩ ?_
      refine v_load rfl rfl ⟨rfl, Nat.le_of_ble_eq_true rfl⟩ ?_
      refine v_getp rfl rfl rfl ?_
      refine v_load rfl rfl ⟨rfl, Nat.le_of_ble_eq_true rfl⟩ ?_
      refine v_getx rfl rfl p2 ?_
      refine v_ald9 rfl rfl ⟨by omega, by show _ < (300 : Int); omega⟩ ?_
      rw [hr.2.1, hr.2.2.1]
      refine v_callr rfl ⟨Nat.le_of_ble_eq_true rfl, Nat.le_of_ble_eq_true rfl, rfl, Nat.le_of_ble_eq_true rfl, rfl⟩ ?_
      refine R_keyOf79 hX.2.1 (fun i i0 i1 => RX_at hX ⟨i0, i1⟩) ⟨by omega, by omega, by omega⟩ ?_
      refine v_goto rfl ?_
      refine v_ret rfl rfl ?_
      rw [if_pos (hi.mpr ⟨c1, by omega⟩)] at k
      have hk : sgn (toks t) a = key t (tk (toks t) a).2.1 (tk (toks t) a).2.2.1 := by obtain ⟨-, h1 | h1 | h1 | h1 | h1⟩ := hq <;> first | exact h1.2.1 | (exfalso; omega)
      exact qeq k (by rw [hk, show (tk (toks t) a).2.1 + ((tk (toks t) a).2.2.1 - (tk (toks t) a).2.1) = (tk (toks t) a).2.2.1 by omega])
end RP
