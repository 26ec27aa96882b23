/-! DRAFTS of the class's parser: cells 52 to 60 (methods 48 to 57) -/
/-- the parser's numbers: nodes held, the token that it stands at -/
def PS (T : List zT) (h a : Int) (M : zM) : Prop := M 52 11 = h ∧ M 52 12 = a ∧ RT T M ∧ 0 ≤ h ∧ h ≤ 1216 ∧ 0 ≤ a ∧ a ≤ 1000
/-- nothing has changed but the parser's numbers and drafts from lo on -/
def FR (lo : Int) (M M' : zM) : Prop := ∀ b j, b ≠ 52 → (53 ≤ b ∧ b ≤ 60 → j < lo) → M' b j = M b j
theorem FR_rf {lo : Int} {M : zM} : FR lo M M := fun _ _ _ _ => rfl
theorem FR_tr {lo lo' : Int} {M M1 M2 : zM} (h : FR lo M M1) (h2 : FR lo' M1 M2) (hl : lo ≤ lo') : FR lo M M2 := fun b j hb hj => (h2 b j hb (fun z => by have := hj z; omega)).trans (h b j hb hj)
theorem FR_RT {T : List zT} {lo : Int} {M M' : zM} (h : FR lo M M') (hR : RT T M) : RT T M' := by
  refine ⟨by rw [h 36 6 (by decide) (by omega)]; exact hR.1, hR.2.1, fun i hi => ?_⟩
  rw [h 37 i (by decide) (by omega), h 38 i (by decide) (by omega), h 39 i (by decide) (by omega), h 40 i (by decide) (by omega), h 41 i (by decide) (by omega)]
  exact hR.2.2 i hi
/-- drafts that follow one another under p: first the one's children, then the next ones -/
def fo (M : zM) (p x : Int) (ts : List (List zN)) (I : List Int) : Prop := ∀ C : Int → Int → List (List zN) → List Int → Prop, (∀ p, C p (-1) [] []) → (∀ p x so fr up sg cs ts Ic It, 0 ≤ x → M 53 x = so → M 54 x = fr → M 55 x = up → M 56 x = sg → M 57 x = p → x ∉ Ic → C x (M 58 x) cs Ic → C p (M 60 x) ts It → C p x (mkN so fr up sg cs :: ts) (x :: (Ic ++ It))) → C p x ts I
theorem fo_nil {M : zM} {p : Int} : fo M p (-1) [] [] := fun _ h _ => h p
theorem fo_cons {M : zM} {p x so fr up sg : Int} {cs ts : List (List zN)} {Ic It : List Int} (h0 : 0 ≤ x) (h1 : M 53 x = so) (h2 : M 54 x = fr) (h3 : M 55 x = up) (h4 : M 56 x = sg) (h5 : M 57 x = p) (hn : x ∉ Ic) (hc : fo M x (M 58 x) cs Ic) (ht : fo M p (M 60 x) ts It) : fo M p x (mkN so fr up sg cs :: ts) (x :: (Ic ++ It)) := fun C k1 k2 => k2 p x so fr up sg cs ts Ic It h0 h1 h2 h3 h4 h5 hn (hc C k1 k2) (ht C k1 k2)
theorem fo_ind {M : zM} {C : Int → Int → List (List zN) → List Int → Prop} {p x : Int} {ts : List (List zN)} {I : List Int} (h : fo M p x ts I) (k1 : ∀ p, C p (-1) [] []) (k2 : ∀ p x so fr up sg cs ts Ic It, 0 ≤ x → M 53 x = so → M 54 x = fr → M 55 x = up → M 56 x = sg → M 57 x = p → x ∉ Ic → fo M x (M 58 x) cs Ic → fo M p (M 60 x) ts It → C x (M 58 x) cs Ic → C p (M 60 x) ts It → C p x (mkN so fr up sg cs :: ts) (x :: (Ic ++ It))) : C p x ts I :=
  (h (fun p x ts I => fo M p x ts I ∧ C p x ts I) (fun p => ⟨fo_nil, k1 p⟩) (fun p x so fr up sg cs ts Ic It h0 h1 h2 h3 h4 h5 hn hc ht => ⟨fo_cons h0 h1 h2 h3 h4 h5 hn hc.1 ht.1, k2 p x so fr up sg cs ts Ic It h0 h1 h2 h3 h4 h5 hn hc.1 ht.1 hc.2 ht.2⟩)).2
def tr (M : zM) (x : Int) (τ : List zN) (I : List Int) : Prop := ∃ so fr up sg cs Ic, 0 ≤ x ∧ M 53 x = so ∧ M 54 x = fr ∧ M 55 x = up ∧ M 56 x = sg ∧ fo M x (M 58 x) cs Ic ∧ τ = mkN so fr up sg cs ∧ I = x :: Ic ∧ I.Nodup
theorem fo_fr {M M' : zM} {p x : Int} {ts : List (List zN)} {I : List Int} (h : fo M p x ts I) : (∀ j ∈ I, ∀ b, 53 ≤ b → b ≤ 60 → b ≠ 59 → M' b j = M b j) → fo M' p x ts I := by
  refine fo_ind (C := fun p x ts I => (∀ j ∈ I, ∀ b, 53 ≤ b → b ≤ 60 → b ≠ 59 → M' b j = M b j) → fo M' p x ts I) h (fun _ _ => fo_nil) ?_
  intro p x so fr up sg cs ts Ic It h0 h1 h2 h3 h4 h5 hn hc ht ic it hk
  have hx : ∀ b, 53 ≤ b → b ≤ 60 → b ≠ 59 → M' b x = M b x := hk x (List.mem_cons_self ..)
  refine fo_cons h0 ?_ ?_ ?_ ?_ ?_ hn ?_ ?_
  · rw [hx 53 (by decide) (by decide) (by decide)]; exact h1
  · rw [hx 54 (by decide) (by decide) (by decide)]; exact h2
  · rw [hx 55 (by decide) (by decide) (by decide)]; exact h3
  · rw [hx 56 (by decide) (by decide) (by decide)]; exact h4
  · rw [hx 57 (by decide) (by decide) (by decide)]; exact h5
  · rw [hx 58 (by decide) (by decide) (by decide)]; exact ic (fun j hj => hk j (List.mem_cons_of_mem _ (List.mem_append_left _ hj)))
  · rw [hx 60 (by decide) (by decide) (by decide)]; exact it (fun j hj => hk j (List.mem_cons_of_mem _ (List.mem_append_right _ hj)))
theorem fo_pos {M : zM} {p x : Int} {ts : List (List zN)} {I : List Int} (h : fo M p x ts I) : ∀ i ∈ I, 0 ≤ i := by
  refine fo_ind (C := fun _ _ _ I => ∀ i ∈ I, 0 ≤ i) h (fun _ i hi => absurd hi List.not_mem_nil) ?_
  intro p x so fr up sg cs ts Ic It h0 _ _ _ _ _ _ _ _ ic it i hi
  rcases List.mem_cons.mp hi with rfl | hi
  · exact h0
  · rcases List.mem_append.mp hi with hi | hi
    · exact ic i hi
    · exact it i hi
theorem tr_fr {M M' : zM} {x : Int} {τ : List zN} {I : List Int} (h : tr M x τ I) (hk : ∀ j ∈ I, ∀ b, 53 ≤ b → b ≤ 60 → b ≠ 59 → (j = x → b ≠ 57 ∧ b ≠ 60) → M' b j = M b j) : tr M' x τ I := by
  obtain ⟨so, fr, up, sg, cs, Ic, h0, h1, h2, h3, h4, h5, h6, rfl, h8⟩ := h
  have hx : ∀ b, 53 ≤ b → b ≤ 60 → b ≠ 59 → b ≠ 57 → b ≠ 60 → M' b x = M b x := fun b b1 b2 b3 b4 b5 => hk x (List.mem_cons_self ..) b b1 b2 b3 (fun _ => ⟨b4, b5⟩)
  refine ⟨so, fr, up, sg, cs, Ic, h0, ?_, ?_, ?_, ?_, ?_, h6, rfl, h8⟩
  · rw [hx 53 (by decide) (by decide) (by decide) (by decide) (by decide)]; exact h1
  · rw [hx 54 (by decide) (by decide) (by decide) (by decide) (by decide)]; exact h2
  · rw [hx 55 (by decide) (by decide) (by decide) (by decide) (by decide)]; exact h3
  · rw [hx 56 (by decide) (by decide) (by decide) (by decide) (by decide)]; exact h4
  · rw [hx 58 (by decide) (by decide) (by decide) (by decide) (by decide)]
    refine fo_fr h5 (fun j hj b b1 b2 b3 => hk j (List.mem_cons_of_mem _ hj) b b1 b2 b3 (fun e => ?_))
    subst e
    exact absurd hj (List.nodup_cons.mp h8).1
theorem tr_mem {M : zM} {x : Int} {τ : List zN} {I : List Int} (h : tr M x τ I) : x ∈ I ∧ 0 ≤ x ∧ I.Nodup ∧ τ ≠ [] := by
  obtain ⟨so, fr, up, sg, cs, Ic, h0, -, -, -, -, -, h6, rfl, h8⟩ := h
  exact ⟨List.mem_cons_self .., h0, h8, by rw [h6]; exact mkN_ne⟩
abbrev zK : Type := Int × List zN × List Int
def ids (ks : List zK) : List Int := ks.flatMap (fun k => k.2.2)
def trs (ks : List zK) : List (List zN) := ks.map (fun k => k.2.1)
def hd1 : List zK → Int
  | [] => -1
  | k :: _ => k.1
def lst : List zK → Int
  | [] => -1
  | [k] => k.1
  | _ :: k :: r => lst (k :: r)
def chn (M : zM) (p : Int) : List zK → Prop
  | [] => True
  | k :: r => M 57 k.1 = p ∧ M 60 k.1 = hd1 r ∧ chn M p r
theorem lst_snoc (ks : List zK) (k : zK) : lst (ks ++ [k]) = k.1 := by
  induction ks with
  | nil => rfl
  | cons a r ih => cases r with
    | nil => rfl
    | cons b r => exact ih
theorem lst_mem : ∀ (ks : List zK), ks ≠ [] → ∃ k ∈ ks, k.1 = lst ks
  | [], h => absurd rfl h
  | [k], _ => ⟨k, List.mem_cons_self .., rfl⟩
  | a :: k :: r, _ => by
    obtain ⟨q, hq, e⟩ := lst_mem (k :: r) (fun h => by cases h)
    exact ⟨q, List.mem_cons_of_mem _ hq, e⟩
theorem chn_snoc {M M' : zM} {p y : Int} {τ : List zN} {I : List Int} : ∀ (ks : List zK), chn M p ks → (ks.map (fun k => k.1)).Nodup → (∀ k ∈ ks, M' 57 k.1 = M 57 k.1) → (∀ k ∈ ks, k.1 ≠ lst ks → M' 60 k.1 = M 60 k.1) → (ks ≠ [] → M' 60 (lst ks) = y) → M' 57 y = p → M' 60 y = -1 → chn M' p (ks ++ [(y, τ, I)])
  | [], _, _, _, _, _, h5, h6 => ⟨h5, h6, trivial⟩
  | [k], h, _, h2, _, h4, h5, h6 => ⟨(h2 k (List.mem_cons_self ..)).trans h.1, h4 (fun e => by cases e), h5, h6, trivial⟩
  | k :: k2 :: r, h, hn, h2, h3, h4, h5, h6 => by
    have hne : k.1 ≠ lst (k2 :: r) := by
      obtain ⟨q, hq, e⟩ := lst_mem (k2 :: r) (fun h => by cases h)
      rw [← e]
      intro e2
      rw [List.map_cons, List.nodup_cons] at hn
      exact hn.1 (List.mem_map.mpr ⟨q, hq, e2.symm⟩)
    refine ⟨(h2 k (List.mem_cons_self ..)).trans h.1, (h3 k (List.mem_cons_self ..) hne).trans h.2.1, ?_⟩
    refine chn_snoc (k2 :: r) h.2.2 ?_ (fun q hq => h2 q (List.mem_cons_of_mem _ hq)) (fun q hq e => h3 q (List.mem_cons_of_mem _ hq) e) (fun _ => h4 (fun e => by cases e)) h5 h6
    rw [List.map_cons, List.nodup_cons] at hn
    exact hn.2
/-- an open draft with its children so far -/
def op (M : zM) (x so fr sg : Int) (ks : List zK) : Prop := 0 ≤ x ∧ M 53 x = so ∧ M 54 x = fr ∧ M 56 x = sg ∧ M 58 x = hd1 ks ∧ M 59 x = lst ks ∧ chn M x ks ∧ (∀ k ∈ ks, tr M k.1 k.2.1 k.2.2) ∧ (x :: ids ks).Nodup ∧ M 60 x = -1
theorem chn_fr {M M' : zM} {p : Int} : ∀ (ks : List zK), chn M p ks → (∀ k ∈ ks, M' 57 k.1 = M 57 k.1 ∧ M' 60 k.1 = M 60 k.1) → chn M' p ks
  | [], _, _ => trivial
  | k :: r, h, h2 => ⟨(h2 k (List.mem_cons_self ..)).1.trans h.1, (h2 k (List.mem_cons_self ..)).2.trans h.2.1, chn_fr r h.2.2 (fun q hq => h2 q (List.mem_cons_of_mem _ hq))⟩
theorem ids_mem {ks : List zK} {k : zK} (h : k ∈ ks) {j : Int} (hj : j ∈ k.2.2) : j ∈ ids ks := List.mem_flatMap.mpr ⟨k, h, hj⟩
theorem op_fr {M M' : zM} {x so fr sg : Int} {ks : List zK} (h : op M x so fr sg ks) (hk : ∀ j ∈ x :: ids ks, ∀ b, 53 ≤ b → b ≤ 60 → (j = x → b ≠ 55 ∧ b ≠ 57) → M' b j = M b j) : op M' x so fr sg ks := by
  obtain ⟨h0, h1, h2, h3, h4, h5, h6, h7, h8, h9⟩ := h
  have hx : ∀ b, 53 ≤ b → b ≤ 60 → b ≠ 55 → b ≠ 57 → M' b x = M b x := fun b b1 b2 b3 b4 => hk x (List.mem_cons_self ..) b b1 b2 (fun _ => ⟨b3, b4⟩)
  have hne : ∀ j ∈ ids ks, j ≠ x := fun j hj e => (List.nodup_cons.mp h8).1 (e ▸ hj)
  refine ⟨h0, ?_, ?_, ?_, ?_, ?_, ?_, ?_, h8, by rw [hx 60 (by decide) (by decide) (by decide) (by decide)]; exact h9⟩
  · rw [hx 53 (by decide) (by decide) (by decide) (by decide)]; exact h1
  · rw [hx 54 (by decide) (by decide) (by decide) (by decide)]; exact h2
  · rw [hx 56 (by decide) (by decide) (by decide) (by decide)]; exact h3
  · rw [hx 58 (by decide) (by decide) (by decide) (by decide)]; exact h4
  · rw [hx 59 (by decide) (by decide) (by decide) (by decide)]; exact h5
  · refine chn_fr ks h6 (fun k hkm => ?_)
    have hm := ids_mem hkm (tr_mem (h7 k hkm)).1
    have := hne _ hm
    exact ⟨hk _ (List.mem_cons_of_mem _ hm) 57 (by decide) (by decide) (fun e => absurd e this), hk _ (List.mem_cons_of_mem _ hm) 60 (by decide) (by decide) (fun e => absurd e this)⟩
  · intro k hkm
    refine tr_fr (h7 k hkm) (fun j hj b b1 b2 b3 _ => ?_)
    have hm := ids_mem hkm hj
    exact hk j (List.mem_cons_of_mem _ hm) b b1 b2 (fun e => absurd e (hne _ hm))
theorem op_fo {M : zM} {p : Int} : ∀ (ks : List zK), chn M p ks → (∀ k ∈ ks, tr M k.1 k.2.1 k.2.2) → fo M p (hd1 ks) (trs ks) (ids ks)
  | [], _, _ => fo_nil
  | k :: r, h, h2 => by
    obtain ⟨so, fr, up, sg, cs, Ic, h0, e1, e2, e3, e4, e5, e6, e7, e8⟩ := h2 k (List.mem_cons_self ..)
    have ih := op_fo r h.2.2 (fun q hq => h2 q (List.mem_cons_of_mem _ hq))
    rw [← h.2.1] at ih
    show fo M p k.1 (k.2.1 :: trs r) (k.2.2 ++ ids r)
    rw [e6, e7, List.cons_append]
    rw [e7] at e8
    exact fo_cons h0 e1 e2 e3 e4 h.1 (List.nodup_cons.mp e8).1 e5 ih
theorem op_tr {M : zM} {x so fr sg up : Int} {ks : List zK} (h : op M x so fr sg ks) (hu : M 55 x = up) : tr M x (mkN so fr up sg (trs ks)) (x :: ids ks) := by
  obtain ⟨h0, h1, h2, h3, h4, h5, h6, h7, h8, -⟩ := h
  refine ⟨so, fr, up, sg, trs ks, ids ks, h0, h1, h2, hu, h3, ?_, rfl, rfl, h8⟩
  rw [h4]
  exact op_fo ks h6 h7
/-- what a part of the parse has brought: a draft in the places from lo on -/
def RES (lo : Int) (M : zM) (h : Int) (M' : zM) (x : Int) (τ : List zN) (I : List Int) : Prop := tr M' x τ I ∧ (∀ i ∈ I, lo ≤ i ∧ i < h) ∧ FR lo M M' ∧ M' 60 x = -1
def OPN (lo : Int) (M0 M : zM) (x so fr sg : Int) (ks : List zK) (h : Int) : Prop := op M x so fr sg ks ∧ (∀ i ∈ x :: ids ks, lo ≤ i ∧ i < h) ∧ FR lo M0 M
section DR
variable {L d : Nat} {M M0 : zM} {Q : Option zV → zM → Prop} {T : List zT} {h a lo : Int}
theorem S_sgn {i : Int} (hP : PS T h a M) (k : Q (some (0, sgn T i)) M) : v_call L d 69 [(2, 36), (0, i)] M Q := S_tkSign hP.2.2.1 k
theorem S_srt {i : Int} (hP : PS T h a M) (k : Q (some (0, srt T i)) M) : v_call L d 65 [(2, 36), (0, i)] M Q := S_tkSort hP.2.2.1 k
theorem S_isHeld {x : Int} (hP : PS T h a M) (k : Q (some (0, if 0 ≤ x ∧ x < h then 1 else 0)) M) : v_call L d 54 [(2, 52), (0, x)] M Q := by
  have h1 := hP.1
  obtain ⟨-, -, -, q1, q2, -⟩ := hP
  refine v_in ?_
  refine v_load rfl rfl ⟨rfl, Nat.le_of_ble_eq_true rfl⟩ ?_
  refine v_iflt rfl (fun c1 => ?_) (fun c1 => ?_)
  · refine v_push rfl ?_
    refine v_ret rfl rfl ?_
    rw [if_neg (by omega)] at k; exact k
  · refine v_load rfl rfl ⟨rfl, Nat.le_of_ble_eq_true rfl⟩ ?_
    refine v_load rfl rfl ⟨rfl, Nat.le_of_ble_eq_true rfl⟩ ?_
    refine v_getx rfl rfl h1 ?_
    refine v_ige rfl (fun c2 => ?_) (fun c2 => ?_)
    · refine v_push rfl ?_
      refine v_ret rfl rfl ?_
      rw [if_neg (by omega)] at k; exact k
    · refine v_load rfl rfl ⟨rfl, Nat.le_of_ble_eq_true rfl⟩ ?_
      refine v_push rfl ?_
      refine v_ige rfl (fun h => absurd h (by omega)) (fun _ => ?_)
      refine v_push rfl ?_
      refine v_goto rfl ?_
      refine v_ret rfl rfl ?_
      rw [if_pos (by omega)] at k; exact k
theorem S_held {x : Int} (hP : PS T h a M) (hx : 0 ≤ x ∧ x < h) (k : Q (some (0, 1)) M) : v_call L d 54 [(2, 52), (0, x)] M Q := S_isHeld hP (by rw [if_pos hx]; exact k)
theorem S_heldN {x : Int} (hP : PS T h a M) (hx : ¬ (0 ≤ x ∧ x < h)) (k : Q (some (0, 0)) M) : v_call L d 54 [(2, 52), (0, x)] M Q := S_isHeld hP (by rw [if_neg hx]; exact k)
theorem S_grow0 {so ta sg : Int} (hP : PS T h a M) (hh : h < 1216) (ht : ta = 0 ∨ ta = 1) (ha : a < 999) (k : ∀ M', PS T (h + 1) (a + ta) M' → FR h M M' → M' 53 h = so → M' 54 h = a → M' 55 h = a + ta → M' 56 h = sg → M' 58 h = -1 → M' 59 h = -1 → M' 60 h = -1 → Q (some (0, h)) M') : v_call L d 51 [(2, 52), (0, so), (0, ta), (0, sg)] M Q := by
  have h1 := hP.1
  have h2 := hP.2.1
  obtain ⟨-, -, hR, q1, q2, q3, q4⟩ := hP
  refine v_in ?_
  refine v_load rfl rfl ⟨rfl, Nat.le_of_ble_eq_true rfl⟩ ?_
  refine v_getx rfl rfl (h1) ?_
  refine v_iflt rfl (fun h => absurd h (by omega)) (fun _ => ?_)
  refine v_load rfl rfl ⟨rfl, Nat.le_of_ble_eq_true rfl⟩ ?_
  refine v_getx rfl rfl (h1) ?_
  refine v_push rfl ?_
  refine v_ilt rfl (fun _ => ?_) (fun h => absurd h (by omega))
  refine v_load rfl rfl ⟨rfl, Nat.le_of_ble_eq_true rfl⟩ ?_
  refine v_getp rfl rfl rfl ?_
  refine v_load rfl rfl ⟨rfl, Nat.le_of_ble_eq_true rfl⟩ ?_
  refine v_getx rfl rfl (h1) ?_
  refine v_load rfl rfl ⟨rfl, Nat.le_of_ble_eq_true rfl⟩ ?_
  refine v_ast9 rfl rfl (by decide) ⟨by omega, by show _ < (1216 : Int); omega⟩ ?_
  refine v_load rfl rfl ⟨rfl, Nat.le_of_ble_eq_true rfl⟩ ?_
  refine v_getp rfl rfl rfl ?_
  refine v_load rfl rfl ⟨rfl, Nat.le_of_ble_eq_true rfl⟩ ?_
  refine v_getx rfl rfl (show _ = h by simp (disch := decide) only [u_n1, h1]) ?_
  refine v_load rfl rfl ⟨rfl, Nat.le_of_ble_eq_true rfl⟩ ?_
  refine v_getx rfl rfl (show _ = a by simp (disch := decide) only [u_n1, h2]) ?_
  refine v_ast9 rfl rfl (by decide) ⟨by omega, by show _ < (1216 : Int); omega⟩ ?_
  refine v_load rfl rfl ⟨rfl, Nat.le_of_ble_eq_true rfl⟩ ?_
  refine v_dup rfl (Or.inr rfl) ?_
  refine v_getx rfl rfl (show _ = a by simp (disch := decide) only [u_n1, h2]) ?_
  refine v_load rfl rfl ⟨rfl, Nat.le_of_ble_eq_true rfl⟩ ?_
  refine v_add rfl (by omega) ?_
  refine v_puti rfl rfl rfl ?_
  refine v_load rfl rfl ⟨rfl, Nat.le_of_ble_eq_true rfl⟩ ?_
  refine v_getp rfl rfl rfl ?_
  refine v_load rfl rfl ⟨rfl, Nat.le_of_ble_eq_true rfl⟩ ?_
  refine v_getx rfl rfl (show _ = h by simp (disch := decide) only [u_n1, u_n2, h1]) ?_
  refine v_load rfl rfl ⟨rfl, Nat.le_of_ble_eq_true rfl⟩ ?_
  refine v_getx rfl rfl (show _ = a + ta by simp (disch := decide) only [u_n1, u_eq]) ?_
  refine v_ast9 rfl rfl (by decide) ⟨by omega, by show _ < (1216 : Int); omega⟩ ?_
  refine v_load rfl rfl ⟨rfl, Nat.le_of_ble_eq_true rfl⟩ ?_
  refine v_getp rfl rfl rfl ?_
  refine v_load rfl rfl ⟨rfl, Nat.le_of_ble_eq_true rfl⟩ ?_
  refine v_getx rfl rfl (show _ = h by simp (disch := decide) only [u_n1, u_n2, h1]) ?_
  refine v_load rfl rfl ⟨rfl, Nat.le_of_ble_eq_true rfl⟩ ?_
  refine v_ast9 rfl rfl (by decide) ⟨by omega, by show _ < (1216 : Int); omega⟩ ?_
  refine v_load rfl rfl ⟨rfl, Nat.le_of_ble_eq_true rfl⟩ ?_
  refine v_getp rfl rfl rfl ?_
  refine v_load rfl rfl ⟨rfl, Nat.le_of_ble_eq_true rfl⟩ ?_
  refine v_getx rfl rfl (show _ = h by simp (disch := decide) only [u_n1, u_n2, h1]) ?_
  refine v_push rfl ?_
  refine v_ast9 rfl rfl (by decide) ⟨by omega, by show _ < (1216 : Int); omega⟩ ?_
  refine v_load rfl rfl ⟨rfl, Nat.le_of_ble_eq_true rfl⟩ ?_
  refine v_getp rfl rfl rfl ?_
  refine v_load rfl rfl ⟨rfl, Nat.le_of_ble_eq_true rfl⟩ ?_
  refine v_getx rfl rfl (show _ = h by simp (disch := decide) only [u_n1, u_n2, h1]) ?_
  refine v_push rfl ?_
  refine v_ast9 rfl rfl (by decide) ⟨by omega, by show _ < (1216 : Int); omega⟩ ?_
  refine v_load rfl rfl ⟨rfl, Nat.le_of_ble_eq_true rfl⟩ ?_
  refine v_getp rfl rfl rfl ?_
  refine v_load rfl rfl ⟨rfl, Nat.le_of_ble_eq_true rfl⟩ ?_
  refine v_getx rfl rfl (show _ = h by simp (disch := decide) only [u_n1, u_n2, h1]) ?_
  refine v_push rfl ?_
  refine v_ast9 rfl rfl (by decide) ⟨by omega, by show _ < (1216 : Int); omega⟩ ?_
  refine v_load rfl rfl ⟨rfl, Nat.le_of_ble_eq_true rfl⟩ ?_
  refine v_getp rfl rfl rfl ?_
  refine v_load rfl rfl ⟨rfl, Nat.le_of_ble_eq_true rfl⟩ ?_
  refine v_getx rfl rfl (show _ = h by simp (disch := decide) only [u_n1, u_n2, h1]) ?_
  refine v_push rfl ?_
  refine v_ast9 rfl rfl (by decide) ⟨by omega, by show _ < (1216 : Int); omega⟩ ?_
  refine v_load rfl rfl ⟨rfl, Nat.le_of_ble_eq_true rfl⟩ ?_
  refine v_dup rfl (Or.inr rfl) ?_
  refine v_getx rfl rfl (show _ = h by simp (disch := decide) only [u_n1, u_n2, h1]) ?_
  refine v_push rfl ?_
  refine v_add rfl (by omega) ?_
  refine v_puti rfl rfl rfl ?_
  refine v_load rfl rfl ⟨rfl, Nat.le_of_ble_eq_true rfl⟩ ?_
  refine v_getx rfl rfl (show _ = h + 1 by simp (disch := decide) only [u_eq]) ?_
  refine v_push rfl ?_
  refine v_sub rfl (by omega) ?_
  refine v_ret rfl rfl ?_
  rw [show h + 1 - 1 = h by omega]
  have hF : FR h M (z_upd (z_upd (z_upd (z_upd (z_upd (z_upd (z_upd (z_upd (z_upd (z_upd M 53 h so) 54 h a) 52 12 (a + ta)) 55 h (a + ta)) 56 h sg) 57 h (-1)) 58 h (-1)) 59 h (-1)) 60 h (-1)) 52 11 (h + 1)) := by
    intro b j hb hj
    by_cases e : 53 ≤ b ∧ b ≤ 60
    · have := hj e
      simp (disch := omega) only [u_n2, u_n1]
    · simp (disch := omega) only [u_n1]
  refine k _ ⟨u_eq, ?_, FR_RT hF hR, by omega, by omega, by omega, by omega⟩ hF ?_ ?_ ?_ ?_ ?_ ?_ ?_
  all_goals simp (disch := decide) only [u_n1, u_n2, u_eq]
/-- a leaf -/
theorem S_leaf {so ta sg : Int} (hP : PS T h a M) (hh : h < 1216) (ht : ta = 0 ∨ ta = 1) (ha : a < 999) (k : ∀ M' x I, PS T (h + 1) (a + ta) M' → RES h M (h + 1) M' x (lfN so a ta sg) I → Q (some (0, x)) M') : v_call L d 51 [(2, 52), (0, so), (0, ta), (0, sg)] M Q := by
  refine S_grow0 hP hh ht ha (fun M' p1 p2 f1 f2 f3 f4 f5 f6 f7 => k M' h [h] p1 ⟨⟨so, a, a + ta, sg, [], [], hP.2.2.2.1, f1, f2, f3, f4, ?_, rfl, rfl, by simp⟩, ?_, p2, f7⟩)
  · rw [f5]; exact fo_nil
  · intro i hi
    have := List.mem_singleton.mp hi
    omega
/-- an open draft -/
theorem S_open {so sg : Int} (hP : PS T h a M) (hh : h < 1216) (ha : a < 999) (k : ∀ M', PS T (h + 1) a M' → OPN h M M' h so a sg [] (h + 1) → Q (some (0, h)) M') : v_call L d 51 [(2, 52), (0, so), (0, 0), (0, sg)] M Q := by
  refine S_grow0 hP hh (Or.inl rfl) ha (fun M' p1 p2 f1 f2 f3 f4 f5 f6 f7 => k M' (by rw [Int.add_zero] at p1; exact p1) ⟨⟨hP.2.2.2.1, f1, f2, f4, f5, f6, trivial, fun _ hk => absurd hk List.not_mem_nil, by simp [ids], f7⟩, ?_, p2⟩)
  intro i hi
  have := List.mem_singleton.mp hi
  omega
theorem ids_snoc (ks : List zK) (k : zK) : ids (ks ++ [k]) = ids ks ++ k.2.2 := by simp [ids]
theorem trs_snoc (ks : List zK) (k : zK) : trs (ks ++ [k]) = trs ks ++ [k.2.1] := by simp [trs]
theorem hd1_snoc (ks : List zK) (k : zK) (hk : ks ≠ []) : hd1 (ks ++ [k]) = hd1 ks := by
  cases ks with
  | nil => exact absurd rfl hk
  | cons a r => rfl
theorem nd_ids {ks : List zK} {M : zM} (h7 : ∀ k ∈ ks, tr M k.1 k.2.1 k.2.2) (h : (ids ks).Nodup) : (ks.map (fun k => k.1)).Nodup := by
  induction ks with
  | nil => exact List.nodup_nil
  | cons k r ih =>
    rw [List.map_cons, List.nodup_cons]
    have h : (k.2.2 ++ ids r).Nodup := h
    rw [List.nodup_append] at h
    refine ⟨fun hm => ?_, ih (fun q hq => h7 q (List.mem_cons_of_mem _ hq)) h.2.1⟩
    obtain ⟨q, hq, e⟩ := List.mem_map.mp hm
    exact h.2.2 _ (tr_mem (h7 k (List.mem_cons_self ..))).1 _ (ids_mem hq (tr_mem (h7 q (List.mem_cons_of_mem _ hq))).1) e.symm
/-- a child more: the memory behind hang -/
theorem op_hang {M M' : zM} {x so fr sg y : Int} {ks : List zK} {τ : List zN} {I : List Int} (ho : op M x so fr sg ks) (ht : tr M y τ I) (hn : (x :: (ids ks ++ I)).Nodup)
    (e58 : M' 58 x = if ks = [] then y else M 58 x) (e59 : M' 59 x = y) (e57 : M' 57 y = x) (e60 : M' 60 y = -1) (el : ks ≠ [] → M' 60 (lst ks) = y)
    (k0 : ∀ b j, 53 ≤ b → b ≤ 60 → b ≠ 57 → b ≠ 58 → b ≠ 59 → b ≠ 60 → M' b j = M b j) (k58 : ∀ j, j ≠ x → M' 58 j = M 58 j) (k57 : ∀ j, j ≠ y → M' 57 j = M 57 j) (k60 : ∀ j, j ≠ y → j ≠ lst ks → M' 60 j = M 60 j) : op M' x so fr sg (ks ++ [(y, τ, I)]) := by
  obtain ⟨h0, h1, h2, h3, h4, h5, h6, h7, h8, h9⟩ := ho
  have hyI := (tr_mem ht).1
  rw [List.nodup_cons, List.nodup_append] at hn
  obtain ⟨hx, hn1, hn2, hn3⟩ := hn
  have hxy : x ≠ y := fun e => hx (List.mem_append_right _ (e ▸ hyI))
  have hxi : ∀ j ∈ ids ks, j ≠ x := fun j hj e => hx (List.mem_append_left _ (e ▸ hj))
  have hyi : ∀ j ∈ ids ks, j ≠ y := fun j hj e => hn3 j hj y hyI e
  have hki : ∀ k ∈ ks, k.1 ∈ ids ks := fun k hk => ids_mem hk (tr_mem (h7 k hk)).1
  refine ⟨h0, by rw [k0 53 x (by decide) (by decide) (by decide) (by decide) (by decide) (by decide)]; exact h1, by rw [k0 54 x (by decide) (by decide) (by decide) (by decide) (by decide) (by decide)]; exact h2, by rw [k0 56 x (by decide) (by decide) (by decide) (by decide) (by decide) (by decide)]; exact h3, ?_, by rw [e59, lst_snoc], ?_, ?_, ?_, ?_⟩
  · rw [e58]
    by_cases e : ks = []
    · subst e; rw [if_pos rfl]; rfl
    · rw [if_neg e, h4, hd1_snoc _ _ e]
  · refine chn_snoc ks h6 (nd_ids h7 hn1) (fun k hk => k57 _ (hyi _ (hki k hk))) (fun k hk e => k60 _ (hyi _ (hki k hk)) e) el e57 e60
  · have inner : ∀ k : zK, tr M k.1 k.2.1 k.2.2 → x ∉ k.2.2 → (∀ j ∈ k.2.2, j ≠ k.1 → j ≠ y) → (∀ j ∈ k.2.2, j ≠ k.1 → j ≠ lst ks) → tr M' k.1 k.2.1 k.2.2 := by
      intro k hk hxk hyk hlk
      refine tr_fr hk (fun j hj b b1 b2 b3 hb => ?_)
      have hjx : j ≠ x := fun e => hxk (e ▸ hj)
      by_cases e58 : b = 58
      · subst e58; exact k58 j hjx
      · by_cases e57 : b = 57
        · subst e57
          refine k57 j (hyk j hj (fun e => (hb e).1 rfl))
        · by_cases e60 : b = 60
          · subst e60
            exact k60 j (hyk j hj (fun e => (hb e).2 rfl)) (hlk j hj (fun e => (hb e).2 rfl))
          · exact k0 b j b1 b2 e57 e58 b3 e60
    intro k hk
    rcases List.mem_append.mp hk with hk | hk
    · refine inner k (h7 k hk) (fun hj => hxi _ (ids_mem hk hj) rfl) (fun j hj _ => hyi j (ids_mem hk hj)) (fun j hj hne e => ?_)
      have hks : ks ≠ [] := fun e => by rw [e] at hk; exact List.not_mem_nil hk
      obtain ⟨q, hq, e2⟩ := lst_mem ks hks
      have hqi := (tr_mem (h7 q hq)).1
      rw [e2, ← e] at hqi
      by_cases hkq : k = q
      · subst hkq; exact hne (e.trans e2.symm)
      · -- two places of one number
        have key : ∀ (l : List zK), (ids l).Nodup → ∀ u ∈ l, ∀ v ∈ l, ∀ i, i ∈ u.2.2 → i ∈ v.2.2 → u = v := by
          intro l
          induction l with
          | nil => intro _ u hu; exact absurd hu List.not_mem_nil
          | cons w r ih =>
            intro hl u hu v hv i hui hvi
            have hl : (w.2.2 ++ ids r).Nodup := hl
            rw [List.nodup_append] at hl
            rcases List.mem_cons.mp hu with e1 | hu2
            · rcases List.mem_cons.mp hv with e2 | hv2
              · exact e1.trans e2.symm
              · exact absurd rfl (hl.2.2 i (e1 ▸ hui) i (ids_mem hv2 hvi))
            · rcases List.mem_cons.mp hv with e2 | hv2
              · exact absurd rfl (hl.2.2 i (e2 ▸ hvi) i (ids_mem hu2 hui))
              · exact ih hl.2.1 u hu2 v hv2 i hui hvi
        exact hkq (key ks hn1 k hk q hq j hj hqi)
    · rw [List.mem_singleton] at hk
      subst hk
      refine inner (y, τ, I) ht (fun hj => hx (List.mem_append_right _ hj)) (fun j _ hne => hne) (fun j hj hne e => ?_)
      by_cases hks : ks = []
      · subst hks
        have : (0 : Int) ≤ j := by
          obtain ⟨so, fr, up, sg, cs, Ic, h0, _, _, _, _, e5, _, rfl, _⟩ := ht
          rcases List.mem_cons.mp hj with rfl | hj
          · exact h0
          · exact fo_pos e5 j hj
        have e : j = -1 := e
        omega
      · obtain ⟨q, hq, e2⟩ := lst_mem ks hks
        have : lst ks ∈ ids ks := by rw [← e2]; exact hki q hq
        exact hn3 _ this j hj e.symm
  · rw [ids_snoc, List.nodup_cons, List.nodup_append]
    exact ⟨hx, hn1, hn2, hn3⟩
  · rw [k60 x hxy (fun e => ?_)]
    · exact h9
    · by_cases hks : ks = []
      · subst hks
        have e : x = -1 := e
        omega
      · obtain ⟨q, hq, e2⟩ := lst_mem ks hks
        exact hxi _ (hki q hq) (e2.trans e.symm)
/-- hang: a child more -/
theorem S_hangF {x so fr sg y : Int} {ks : List zK} {τ : List zN} {I : List Int} (ho1 : op M x so fr sg ks) (ht : tr M y τ I) (hnd : (x :: (ids ks ++ I)).Nodup) (hin : ∀ i ∈ x :: (ids ks ++ I), lo ≤ i ∧ i < h) (hF0 : FR lo M0 M) (hP : PS T h a M) (k : ∀ M', PS T h a M' → OPN lo M0 M' x so fr sg (ks ++ [(y, τ, I)]) h → (∀ b j, b ≠ 52 → (53 ≤ b ∧ b ≤ 60 → j ≠ x ∧ j ≠ y ∧ (ks ≠ [] → j ≠ lst ks)) → M' b j = M b j) → Q none M') : v_call L (d + 1) 55 [(2, 52), (0, x), (0, y)] M Q := by
  have hx := hin x (List.mem_cons_self ..)
  have hy := hin y (List.mem_cons_of_mem _ (List.mem_append_right _ (tr_mem ht).1))
  have hx0 := ho1.1
  have hy0 := (tr_mem ht).2.1
  have hP' := hP
  obtain ⟨p1, p2, hRT, q1, q2, q3, q4⟩ := hP
  have e59 := ho1.2.2.2.2.2.1
  have fin : ∀ M', op M' x so fr sg (ks ++ [(y, τ, I)]) → (∀ b j, b ≠ 52 → (53 ≤ b ∧ b ≤ 60 → j < lo) → M' b j = M b j) → M' 52 11 = M 52 11 → M' 52 12 = M 52 12 → (∀ b j, b ≠ 52 → (53 ≤ b ∧ b ≤ 60 → j ≠ x ∧ j ≠ y ∧ (ks ≠ [] → j ≠ lst ks)) → M' b j = M b j) → Q none M' := by
    intro M' k1 k2 k3 k4 k5
    refine k M' ⟨k3.trans p1, k4.trans p2, FR_RT k2 hRT, q1, q2, q3, q4⟩ ⟨k1, fun i hi => ?_, FR_tr hF0 k2 (Int.le_refl _)⟩ k5
    rw [ids_snoc] at hi
    exact hin i hi
  have hxy : x ≠ y := fun e => (List.nodup_cons.mp hnd).1 (List.mem_append_right _ (e ▸ (tr_mem ht).1))
  refine v_in ?_
  refine v_load rfl rfl ⟨rfl, Nat.le_of_ble_eq_true rfl⟩ ?_
  refine v_load rfl rfl ⟨rfl, Nat.le_of_ble_eq_true rfl⟩ ?_
  refine v_callr rfl ⟨Nat.le_of_ble_eq_true rfl, Nat.le_of_ble_eq_true rfl, rfl, Nat.le_of_ble_eq_true rfl, rfl⟩ ?_
  refine S_held hP' (by omega) ?_
  refine v_ifeq rfl (fun h => absurd h (by omega)) (fun _ => ?_)
  refine v_load rfl rfl ⟨rfl, Nat.le_of_ble_eq_true rfl⟩ ?_
  refine v_load rfl rfl ⟨rfl, Nat.le_of_ble_eq_true rfl⟩ ?_
  refine v_callr rfl ⟨Nat.le_of_ble_eq_true rfl, Nat.le_of_ble_eq_true rfl, rfl, Nat.le_of_ble_eq_true rfl, rfl⟩ ?_
  refine S_held hP' (by omega) ?_
  refine v_ifne rfl (fun _ => ?_) (fun h => absurd h (by omega))
  refine v_load rfl rfl ⟨rfl, Nat.le_of_ble_eq_true rfl⟩ ?_
  refine v_getp rfl rfl rfl ?_
  refine v_load rfl rfl ⟨rfl, Nat.le_of_ble_eq_true rfl⟩ ?_
  refine v_ald9 rfl rfl ⟨by omega, by show _ < (1216 : Int); omega⟩ ?_
  refine v_store rfl ⟨rfl, Nat.le_of_ble_eq_true rfl, Nat.le_of_ble_eq_true rfl, rfl⟩ rfl ?_
  rw [e59]
  by_cases hks : ks = []
  · subst hks
    refine v_load rfl rfl ⟨rfl, Nat.le_of_ble_eq_true rfl⟩ ?_
    refine v_load rfl rfl ⟨rfl, Nat.le_of_ble_eq_true rfl⟩ ?_
    refine v_callr rfl ⟨Nat.le_of_ble_eq_true rfl, Nat.le_of_ble_eq_true rfl, rfl, Nat.le_of_ble_eq_true rfl, rfl⟩ ?_
    refine S_heldN hP' (by show ¬ (0 ≤ (-1 : Int) ∧ _); omega) ?_
    refine v_ifeq rfl (fun _ => ?_) (fun h => absurd h (by omega))
    refine v_load rfl rfl ⟨rfl, Nat.le_of_ble_eq_true rfl⟩ ?_
    refine v_getp rfl rfl rfl ?_
    refine v_load rfl rfl ⟨rfl, Nat.le_of_ble_eq_true rfl⟩ ?_
    refine v_load rfl rfl ⟨rfl, Nat.le_of_ble_eq_true rfl⟩ ?_
    refine v_ast9 rfl rfl (by decide) ⟨by omega, by show _ < (1216 : Int); omega⟩ ?_
    refine v_load rfl rfl ⟨rfl, Nat.le_of_ble_eq_true rfl⟩ ?_
    refine v_getp rfl rfl rfl ?_
    refine v_load rfl rfl ⟨rfl, Nat.le_of_ble_eq_true rfl⟩ ?_
    refine v_load rfl rfl ⟨rfl, Nat.le_of_ble_eq_true rfl⟩ ?_
    refine v_ast9 rfl rfl (by decide) ⟨by omega, by show _ < (1216 : Int); omega⟩ ?_
    refine v_load rfl rfl ⟨rfl, Nat.le_of_ble_eq_true rfl⟩ ?_
    refine v_getp rfl rfl rfl ?_
    refine v_load rfl rfl ⟨rfl, Nat.le_of_ble_eq_true rfl⟩ ?_
    refine v_load rfl rfl ⟨rfl, Nat.le_of_ble_eq_true rfl⟩ ?_
    refine v_ast9 rfl rfl (by decide) ⟨by omega, by show _ < (1216 : Int); omega⟩ ?_
    refine v_load rfl rfl ⟨rfl, Nat.le_of_ble_eq_true rfl⟩ ?_
    refine v_getp rfl rfl rfl ?_
    refine v_load rfl rfl ⟨rfl, Nat.le_of_ble_eq_true rfl⟩ ?_
    refine v_push rfl ?_
    refine v_ast9 rfl rfl (by decide) ⟨by omega, by show _ < (1216 : Int); omega⟩ ?_
    refine v_ret rfl rfl ?_
    refine fin _ (op_hang ho1 ht hnd ?_ ?_ ?_ ?_ (fun e => absurd rfl e) ?_ ?_ ?_ ?_) ?_ ?_ ?_ ?_
    · rw [if_pos rfl]; simp (disch := decide) only [u_n1, u_n2, u_eq]
    · simp (disch := decide) only [u_n1, u_n2, u_eq]
    · simp (disch := decide) only [u_n1, u_n2, u_eq]
    · simp (disch := decide) only [u_n1, u_n2, u_eq]
    · intro b j _ _ _ _ _ _; simp (disch := assumption) only [u_n1]
    · intro j hj; simp (disch := first | decide | assumption) only [u_n1, u_n2]
    · intro j hj; simp (disch := first | decide | assumption) only [u_n1, u_n2]
    · intro j hj _; simp (disch := first | decide | assumption) only [u_n1, u_n2]
    · intro b j hb hj
      by_cases e : 53 ≤ b ∧ b ≤ 60
      · have := hj e
        simp (disch := omega) only [u_n2]
      · simp (disch := omega) only [u_n1]
    · simp (disch := decide) only [u_n1]
    · simp (disch := decide) only [u_n1]
    · intro b j hb hj
      by_cases e : 53 ≤ b ∧ b ≤ 60
      · obtain ⟨j1, j2, j3⟩ := hj e
        simp (disch := assumption) only [u_n2]
        try exact u_n2 (j3 hks)
      · simp (disch := omega) only [u_n1]
  · obtain ⟨q, hq, e2⟩ := lst_mem ks hks
    have hql : lst ks ∈ ids ks := by rw [← e2]; exact ids_mem hq (tr_mem (ho1.2.2.2.2.2.2.2.1 q hq)).1
    have hlr := hin _ (List.mem_cons_of_mem _ (List.mem_append_left _ hql))
    have hl0 : 0 ≤ lst ks := by rw [← e2]; exact (tr_mem (ho1.2.2.2.2.2.2.2.1 q hq)).2.1
    have hly : lst ks ≠ y := fun e => (List.nodup_append.mp (List.nodup_cons.mp hnd).2).2.2 _ hql _ (tr_mem ht).1 e
    refine v_load rfl rfl ⟨rfl, Nat.le_of_ble_eq_true rfl⟩ ?_
    refine v_load rfl rfl ⟨rfl, Nat.le_of_ble_eq_true rfl⟩ ?_
    refine v_callr rfl ⟨Nat.le_of_ble_eq_true rfl, Nat.le_of_ble_eq_true rfl, rfl, Nat.le_of_ble_eq_true rfl, rfl⟩ ?_
    refine S_held hP' (by omega) ?_
    refine v_ifeq rfl (fun h => absurd h (by omega)) (fun _ => ?_)
    refine v_load rfl rfl ⟨rfl, Nat.le_of_ble_eq_true rfl⟩ ?_
    refine v_getp rfl rfl rfl ?_
    refine v_load rfl rfl ⟨rfl, Nat.le_of_ble_eq_true rfl⟩ ?_
    refine v_load rfl rfl ⟨rfl, Nat.le_of_ble_eq_true rfl⟩ ?_
    refine v_ast9 rfl rfl (by decide) ⟨by omega, by show _ < (1216 : Int); omega⟩ ?_
    refine v_goto rfl ?_
    refine v_load rfl rfl ⟨rfl, Nat.le_of_ble_eq_true rfl⟩ ?_
    refine v_getp rfl rfl rfl ?_
    refine v_load rfl rfl ⟨rfl, Nat.le_of_ble_eq_true rfl⟩ ?_
    refine v_load rfl rfl ⟨rfl, Nat.le_of_ble_eq_true rfl⟩ ?_
    refine v_ast9 rfl rfl (by decide) ⟨by omega, by show _ < (1216 : Int); omega⟩ ?_
    refine v_load rfl rfl ⟨rfl, Nat.le_of_ble_eq_true rfl⟩ ?_
    refine v_getp rfl rfl rfl ?_
    refine v_load rfl rfl ⟨rfl, Nat.le_of_ble_eq_true rfl⟩ ?_
    refine v_load rfl rfl ⟨rfl, Nat.le_of_ble_eq_true rfl⟩ ?_
    refine v_ast9 rfl rfl (by decide) ⟨by omega, by show _ < (1216 : Int); omega⟩ ?_
    refine v_load rfl rfl ⟨rfl, Nat.le_of_ble_eq_true rfl⟩ ?_
    refine v_getp rfl rfl rfl ?_
    refine v_load rfl rfl ⟨rfl, Nat.le_of_ble_eq_true rfl⟩ ?_
    refine v_push rfl ?_
    refine v_ast9 rfl rfl (by decide) ⟨by omega, by show _ < (1216 : Int); omega⟩ ?_
    refine v_ret rfl rfl ?_
    refine fin _ (op_hang ho1 ht hnd ?_ ?_ ?_ ?_ (fun _ => ?_) ?_ ?_ ?_ ?_) ?_ ?_ ?_ ?_
    · rw [if_neg hks]; simp (disch := decide) only [u_n1, u_n2, u_eq]
    · simp (disch := decide) only [u_n1, u_n2, u_eq]
    · simp (disch := decide) only [u_n1, u_n2, u_eq]
    · simp (disch := decide) only [u_n1, u_n2, u_eq]
    · simp (disch := first | decide | assumption) only [u_n1, u_n2, u_eq]
    · intro b j _ _ _ _ _ _; simp (disch := assumption) only [u_n1]
    · intro j hj; simp (disch := first | decide | assumption) only [u_n1, u_n2]
    · intro j hj; simp (disch := first | decide | assumption) only [u_n1, u_n2]
    · intro j hj _; simp (disch := first | decide | assumption) only [u_n1, u_n2]
    · intro b j hb hj
      by_cases e : 53 ≤ b ∧ b ≤ 60
      · have := hj e
        simp (disch := omega) only [u_n2]
      · simp (disch := omega) only [u_n1]
    · simp (disch := decide) only [u_n1]
    · simp (disch := decide) only [u_n1]
    · intro b j hb hj
      by_cases e : 53 ≤ b ∧ b ≤ 60
      · obtain ⟨j1, j2, j3⟩ := hj e
        simp (disch := assumption) only [u_n2]
        try exact u_n2 (j3 hks)
      · simp (disch := omega) only [u_n1]
theorem S_hangG {x so fr sg y : Int} {ks : List zK} {τ : List zN} {I : List Int} (ho1 : op M x so fr sg ks) (ht : tr M y τ I) (hnd : (x :: (ids ks ++ I)).Nodup) (hin : ∀ i ∈ x :: (ids ks ++ I), lo ≤ i ∧ i < h) (hF0 : FR lo M0 M) (hP : PS T h a M) (k : ∀ M', PS T h a M' → OPN lo M0 M' x so fr sg (ks ++ [(y, τ, I)]) h → Q none M') : v_call L (d + 1) 55 [(2, 52), (0, x), (0, y)] M Q := S_hangF ho1 ht hnd hin hF0 hP (fun M' k1 k2 _ => k M' k1 k2)
/-- hang behind a part of the parse -/
theorem S_hang {x so fr sg y h1 a1 : Int} {ks : List zK} {τ : List zN} {I : List Int} {M1 : zM} (hO : OPN lo M0 M x so fr sg ks h) (hP : PS T h1 a1 M1) (hl : h ≤ h1) (hR : RES h M h1 M1 y τ I) (k : ∀ M', PS T h1 a1 M' → OPN lo M0 M' x so fr sg (ks ++ [(y, τ, I)]) h1 → Q none M') : v_call L (d + 1) 55 [(2, 52), (0, x), (0, y)] M1 Q := by
  obtain ⟨ho, hin, hF0⟩ := hO
  obtain ⟨ht, hI, hF, -⟩ := hR
  have ho1 : op M1 x so fr sg ks := op_fr ho (fun j hj b b1 b2 _ => hF b j (by omega) (fun _ => (hin j hj).2))
  have hx := hin x (List.mem_cons_self ..)
  have hnd : (x :: (ids ks ++ I)).Nodup := by
    have h8 := ho.2.2.2.2.2.2.2.2.1
    rw [List.nodup_cons] at h8 ⊢
    refine ⟨fun hm => ?_, List.nodup_append.mpr ⟨h8.2, (tr_mem ht).2.2.1, fun i hi j hj e => ?_⟩⟩
    · rcases List.mem_append.mp hm with hm | hm
      · exact h8.1 hm
      · have := hI _ hm; omega
    · have h1 := hin i (List.mem_cons_of_mem _ hi)
      have h2 := hI j hj
      omega
  refine S_hangG ho1 ht hnd (fun i hi => ?_) (FR_tr hF0 hF (by omega)) hP k
  rcases List.mem_cons.mp hi with rfl | hi
  · omega
  · rcases List.mem_append.mp hi with hi | hi
    · have := hin i (List.mem_cons_of_mem _ hi); omega
    · have := hI i hi; omega
/-- hang a left one -/
theorem S_hangL {so fr sg y : Int} {τ : List zN} {I : List Int} {M1 : zM} (hO : OPN h M M1 h so fr sg [] (h + 1)) (hR : RES lo M0 h M y τ I) (hl : lo ≤ h) (hP : PS T (h + 1) a M1) (k : ∀ M', PS T (h + 1) a M' → OPN lo M0 M' h so fr sg ([] ++ [(y, τ, I)]) (h + 1) → Q none M') : v_call L (d + 1) 55 [(2, 52), (0, h), (0, y)] M1 Q := by
  obtain ⟨ho, hin, hF⟩ := hO
  obtain ⟨ht, hI, hF0, -⟩ := hR
  have ht1 : tr M1 y τ I := tr_fr ht (fun j hj b b1 b2 _ _ => hF b j (by omega) (fun _ => (hI j hj).2))
  refine S_hangG ho ht1 ?_ (fun i hi => ?_) (FR_tr hF0 hF hl) hP k
  · refine List.nodup_cons.mpr ⟨fun hm => ?_, (tr_mem ht).2.2.1⟩
    have := hI h hm
    omega
  · rcases List.mem_cons.mp hi with rfl | hi
    · omega
    · have := hI i hi
      omega
/-- shut: the draft is whole -/
theorem S_shut {x so fr sg : Int} {ks : List zK} (hO : OPN lo M0 M x so fr sg ks h) (hP : PS T h a M) (k : ∀ M', PS T h a M' → RES lo M0 h M' x (mkN so fr a sg (trs ks)) (x :: ids ks) → Q (some (0, x)) M') : v_call L (d + 1) 53 [(2, 52), (0, x)] M Q := by
  obtain ⟨ho, hin, hF0⟩ := hO
  have hx := hin x (List.mem_cons_self ..)
  have hx0 := ho.1
  have hP' := hP
  obtain ⟨p1, p2, hRT, q1, q2, q3, q4⟩ := hP
  refine v_in ?_
  refine v_load rfl rfl ⟨rfl, Nat.le_of_ble_eq_true rfl⟩ ?_
  refine v_load rfl rfl ⟨rfl, Nat.le_of_ble_eq_true rfl⟩ ?_
  refine v_callr rfl ⟨Nat.le_of_ble_eq_true rfl, Nat.le_of_ble_eq_true rfl, rfl, Nat.le_of_ble_eq_true rfl, rfl⟩ ?_
  refine S_held hP' (by omega) ?_
  refine v_ifeq rfl (fun h => absurd h (by omega)) (fun _ => ?_)
  refine v_load rfl rfl ⟨rfl, Nat.le_of_ble_eq_true rfl⟩ ?_
  refine v_getp rfl rfl rfl ?_
  refine v_load rfl rfl ⟨rfl, Nat.le_of_ble_eq_true rfl⟩ ?_
  refine v_load rfl rfl ⟨rfl, Nat.le_of_ble_eq_true rfl⟩ ?_
  refine v_getx rfl rfl p2 ?_
  refine v_ast9 rfl rfl (by decide) ⟨by omega, by show _ < (1216 : Int); omega⟩ ?_
  refine v_load rfl rfl ⟨rfl, Nat.le_of_ble_eq_true rfl⟩ ?_
  refine v_ret rfl rfl ?_
  have hF : FR lo M (z_upd M 55 x a) := by
    intro b j hb hj
    by_cases e : 53 ≤ b ∧ b ≤ 60
    · have := hj e
      exact u_n2 (by omega)
    · exact u_n1 (by omega)
  have ho2 : op (z_upd M 55 x a) x so fr sg ks := op_fr ho (fun j hj b b1 b2 hb => by
    by_cases e : j = x
    · exact u_n1 (hb e).1
    · exact u_n2 e)
  exact k _ ⟨by rw [u_n1 (by decide)]; exact p1, by rw [u_n1 (by decide)]; exact p2, FR_RT hF hRT, q1, q2, q3, q4⟩ ⟨op_tr ho2 u_eq, hin, FR_tr hF0 hF (Int.le_refl _), ho2.2.2.2.2.2.2.2.2.2⟩
/-- closing: a mark, or what is missing -/
theorem S_closing {sg : Int} (hP : PS T h a M) (hh : h < 1216) (ha : a < 999) (k : ∀ M' x I, PS T (h + 1) (clos T sg a).2 M' → RES h M (h + 1) M' x (clos T sg a).1 I → Q (some (0, x)) M') : v_call L (d + 1) 50 [(2, 52), (0, sg)] M Q := by
  have p2 := hP.2.1
  have hRT := hP.2.2.1
  refine v_in ?_
  refine v_load rfl rfl ⟨rfl, Nat.le_of_ble_eq_true rfl⟩ ?_
  refine v_getp rfl rfl rfl ?_
  refine v_load rfl rfl ⟨rfl, Nat.le_of_ble_eq_true rfl⟩ ?_
  refine v_getx rfl rfl p2 ?_
  refine v_callr rfl ⟨Nat.le_of_ble_eq_true rfl, Nat.le_of_ble_eq_true rfl, rfl, Nat.le_of_ble_eq_true rfl, rfl⟩ ?_
  refine S_tkSign hRT ?_
  refine v_load rfl rfl ⟨rfl, Nat.le_of_ble_eq_true rfl⟩ ?_
  by_cases e : sgn T a = sg
  · have ec : clos T sg a = (lfN 16 a 1 sg, a + 1) := if_pos e
    rw [ec] at k
    refine v_ine rfl (fun h => absurd h (by unfold sgn at e; omega)) (fun _ => ?_)
    refine v_load rfl rfl ⟨rfl, Nat.le_of_ble_eq_true rfl⟩ ?_
    refine v_push rfl ?_
    refine v_push rfl ?_
    refine v_load rfl rfl ⟨rfl, Nat.le_of_ble_eq_true rfl⟩ ?_
    refine v_callr rfl ⟨Nat.le_of_ble_eq_true rfl, Nat.le_of_ble_eq_true rfl, rfl, Nat.le_of_ble_eq_true rfl, rfl⟩ ?_
    refine S_leaf hP hh (Or.inr rfl) ha (fun M' x I k1 k2 => ?_)
    refine v_goto rfl ?_
    refine v_ret rfl rfl ?_
    exact k M' x I k1 k2
  · have ec : clos T sg a = (lfN 17 a 0 sg, a) := if_neg e
    rw [ec] at k
    refine v_ine rfl (fun _ => ?_) (fun h => absurd h (by unfold sgn at e; omega))
    refine v_load rfl rfl ⟨rfl, Nat.le_of_ble_eq_true rfl⟩ ?_
    refine v_push rfl ?_
    refine v_push rfl ?_
    refine v_load rfl rfl ⟨rfl, Nat.le_of_ble_eq_true rfl⟩ ?_
    refine v_callr rfl ⟨Nat.le_of_ble_eq_true rfl, Nat.le_of_ble_eq_true rfl, rfl, Nat.le_of_ble_eq_true rfl, rfl⟩ ?_
    refine S_leaf hP hh (Or.inl rfl) ha (fun M' x I k1 k2 => ?_)
    refine v_ret rfl rfl ?_
    exact k M' x I (by rw [Int.add_zero] at k1; exact k1) k2
theorem S_isPlain (hP : PS T h a M) (k : Q (some (0, if srt T a = 0 ∧ sgn T a = 0 then 1 else 0)) M) : v_call L (d + 1) 48 [(2, 52)] M Q := by
  have p2 := hP.2.1
  have hRT := hP.2.2.1
  refine v_in ?_
  refine v_load rfl rfl ⟨rfl, Nat.le_of_ble_eq_true rfl⟩ ?_
  refine v_getp rfl rfl rfl ?_
  refine v_load rfl rfl ⟨rfl, Nat.le_of_ble_eq_true rfl⟩ ?_
  refine v_getx rfl rfl p2 ?_
  refine v_callr rfl ⟨Nat.le_of_ble_eq_true rfl, Nat.le_of_ble_eq_true rfl, rfl, Nat.le_of_ble_eq_true rfl, rfl⟩ ?_
  refine S_tkSort hRT ?_
  refine v_ifne rfl (fun c1 => ?_) (fun c1 => ?_)
  · refine v_push rfl ?_
    refine v_ret rfl rfl ?_
    rw [if_neg (fun z => c1 z.1)] at k; exact k
  · refine v_load rfl rfl ⟨rfl, Nat.le_of_ble_eq_true rfl⟩ ?_
    refine v_getp rfl rfl rfl ?_
    refine v_load rfl rfl ⟨rfl, Nat.le_of_ble_eq_true rfl⟩ ?_
    refine v_getx rfl rfl p2 ?_
    refine v_callr rfl ⟨Nat.le_of_ble_eq_true rfl, Nat.le_of_ble_eq_true rfl, rfl, Nat.le_of_ble_eq_true rfl, rfl⟩ ?_
    refine S_tkSign hRT ?_
    refine v_ifne rfl (fun c2 => ?_) (fun c2 => ?_)
    · refine v_push rfl ?_
      refine v_ret rfl rfl ?_
      rw [if_neg (fun z => c2 z.2)] at k; exact k
    · refine v_push rfl ?_
      refine v_goto rfl ?_
      refine v_ret rfl rfl ?_
      rw [if_pos ⟨c1, c2⟩] at k; exact k
theorem S_isNext {u v : Int} (hP : PS T h a M) (k : Q (some (0, if sgn T a = u ∨ sgn T a = v then 1 else 0)) M) : v_call L (d + 1) 49 [(2, 52), (0, u), (0, v)] M Q := by
  have p2 := hP.2.1
  have hRT := hP.2.2.1
  refine v_in ?_
  refine v_load rfl rfl ⟨rfl, Nat.le_of_ble_eq_true rfl⟩ ?_
  refine v_getp rfl rfl rfl ?_
  refine v_load rfl rfl ⟨rfl, Nat.le_of_ble_eq_true rfl⟩ ?_
  refine v_getx rfl rfl p2 ?_
  refine v_callr rfl ⟨Nat.le_of_ble_eq_true rfl, Nat.le_of_ble_eq_true rfl, rfl, Nat.le_of_ble_eq_true rfl, rfl⟩ ?_
  refine S_tkSign hRT ?_
  refine v_store rfl ⟨rfl, Nat.le_of_ble_eq_true rfl, Nat.le_of_ble_eq_true rfl, rfl⟩ rfl ?_
  refine v_load rfl rfl ⟨rfl, Nat.le_of_ble_eq_true rfl⟩ ?_
  refine v_load rfl rfl ⟨rfl, Nat.le_of_ble_eq_true rfl⟩ ?_
  refine v_ieq rfl (fun c1 => ?_) (fun c1 => ?_)
  · refine v_push rfl ?_
    refine v_goto rfl ?_
    refine v_ret rfl rfl ?_
    rw [if_pos (Or.inl (show sgn T a = u from c1))] at k; exact k
  · refine v_load rfl rfl ⟨rfl, Nat.le_of_ble_eq_true rfl⟩ ?_
    refine v_load rfl rfl ⟨rfl, Nat.le_of_ble_eq_true rfl⟩ ?_
    refine v_ine rfl (fun c2 => ?_) (fun c2 => ?_)
    · refine v_push rfl ?_
      refine v_ret rfl rfl ?_
      rw [if_neg (fun z => z.elim c1 c2)] at k; exact k
    · refine v_push rfl ?_
      refine v_goto rfl ?_
      refine v_ret rfl rfl ?_
      rw [if_pos (Or.inr (show sgn T a = v from c2))] at k; exact k
/-- a draft over a left one: it begins where that one does -/
theorem S_over {so y : Int} {τ : List zN} {I : List Int} (hP : PS T h a M) (hR : tr M y τ I) (hy : y < h) (hh : h < 1216) (ha : a < 999) (k : ∀ M', PS T (h + 1) a M' → OPN h M M' h so (nFr τ) 0 [] (h + 1) → Q (some (0, h)) M') : v_call L (d + 1) 52 [(2, 52), (0, so), (0, y)] M Q := by
  have hy0 := (tr_mem hR).2.1
  refine v_in ?_
  refine v_load rfl rfl ⟨rfl, Nat.le_of_ble_eq_true rfl⟩ ?_
  refine v_load rfl rfl ⟨rfl, Nat.le_of_ble_eq_true rfl⟩ ?_
  refine v_push rfl ?_
  refine v_push rfl ?_
  refine v_callr rfl ⟨Nat.le_of_ble_eq_true rfl, Nat.le_of_ble_eq_true rfl, rfl, Nat.le_of_ble_eq_true rfl, rfl⟩ ?_
  refine S_grow0 hP hh (Or.inl rfl) ha (fun M' p1 p2 f1 f2 f3 f4 f5 f6 f7 => ?_)
  rw [Int.add_zero] at p1
  refine v_store rfl ⟨rfl, Nat.le_of_ble_eq_true rfl, Nat.le_of_ble_eq_true rfl, rfl⟩ rfl ?_
  refine v_load rfl rfl ⟨rfl, Nat.le_of_ble_eq_true rfl⟩ ?_
  refine v_load rfl rfl ⟨rfl, Nat.le_of_ble_eq_true rfl⟩ ?_
  refine v_callr rfl ⟨Nat.le_of_ble_eq_true rfl, Nat.le_of_ble_eq_true rfl, rfl, Nat.le_of_ble_eq_true rfl, rfl⟩ ?_
  refine S_held p1 (by omega) ?_
  refine v_ifeq rfl (fun h => absurd h (by omega)) (fun _ => ?_)
  refine v_load rfl rfl ⟨rfl, Nat.le_of_ble_eq_true rfl⟩ ?_
  refine v_load rfl rfl ⟨rfl, Nat.le_of_ble_eq_true rfl⟩ ?_
  refine v_callr rfl ⟨Nat.le_of_ble_eq_true rfl, Nat.le_of_ble_eq_true rfl, rfl, Nat.le_of_ble_eq_true rfl, rfl⟩ ?_
  refine S_held p1 (by omega) ?_
  refine v_ifeq rfl (fun h => absurd h (by omega)) (fun _ => ?_)
  refine v_load rfl rfl ⟨rfl, Nat.le_of_ble_eq_true rfl⟩ ?_
  refine v_getp rfl rfl rfl ?_
  refine v_load rfl rfl ⟨rfl, Nat.le_of_ble_eq_true rfl⟩ ?_
  refine v_load rfl rfl ⟨rfl, Nat.le_of_ble_eq_true rfl⟩ ?_
  refine v_getp rfl rfl rfl ?_
  refine v_load rfl rfl ⟨rfl, Nat.le_of_ble_eq_true rfl⟩ ?_
  refine v_ald9 rfl rfl ⟨by omega, by show _ < (1216 : Int); omega⟩ ?_
  refine v_ast9 rfl rfl (by decide) ⟨by omega, by show _ < (1216 : Int); omega⟩ ?_
  refine v_load rfl rfl ⟨rfl, Nat.le_of_ble_eq_true rfl⟩ ?_
  refine v_ret rfl rfl ?_
  have ey : M' 54 y = nFr τ := by
    rw [p2 54 y (by decide) (fun _ => by omega)]
    obtain ⟨so, fr, up, sg, cs, Ic, -, -, e2, -, -, -, e6, -⟩ := hR
    rw [e6, mkN_fr]
    exact e2
  rw [ey]
  have hF : FR h M' (z_upd M' 54 h (nFr τ)) := by
    intro b j hb hj
    by_cases e : 53 ≤ b ∧ b ≤ 60
    · have := hj e
      exact u_n2 (by omega)
    · exact u_n1 (by omega)
  obtain ⟨g1, g2, g3, g4, g5, g6, g7⟩ := p1
  refine k _ ⟨by rw [u_n1 (by decide)]; exact g1, by rw [u_n1 (by decide)]; exact g2, FR_RT hF g3, g4, g5, g6, g7⟩ ⟨⟨hP.2.2.2.1, by rw [u_n1 (by decide)]; exact f1, u_eq, by rw [u_n1 (by decide)]; exact f4, by rw [u_n1 (by decide)]; exact f5, by rw [u_n1 (by decide)]; exact f6, trivial, fun _ hk => absurd hk List.not_mem_nil, by simp [ids], by rw [u_n1 (by decide)]; exact f7⟩, ?_, FR_tr p2 hF (Int.le_refl _)⟩
  intro i hi
  have := List.mem_singleton.mp hi
  omega
theorem S_follow {x y : Int} (hP : PS T h a M) (hx : 0 ≤ x ∧ x < h) (k : Q none (z_upd M 60 x y)) : v_call L (d + 1) 56 [(2, 52), (0, x), (0, y)] M Q := by
  have q2 := hP.2.2.2.2.1
  refine v_in ?_
  refine v_load rfl rfl ⟨rfl, Nat.le_of_ble_eq_true rfl⟩ ?_
  refine v_load rfl rfl ⟨rfl, Nat.le_of_ble_eq_true rfl⟩ ?_
  refine v_callr rfl ⟨Nat.le_of_ble_eq_true rfl, Nat.le_of_ble_eq_true rfl, rfl, Nat.le_of_ble_eq_true rfl, rfl⟩ ?_
  refine S_held hP hx ?_
  refine v_ifeq rfl (fun h => absurd h (by omega)) (fun _ => ?_)
  refine v_load rfl rfl ⟨rfl, Nat.le_of_ble_eq_true rfl⟩ ?_
  refine v_getp rfl rfl rfl ?_
  refine v_load rfl rfl ⟨rfl, Nat.le_of_ble_eq_true rfl⟩ ?_
  refine v_load rfl rfl ⟨rfl, Nat.le_of_ble_eq_true rfl⟩ ?_
  refine v_ast9 rfl rfl (by decide) ⟨by omega, by show _ < (1216 : Int); omega⟩ ?_
  refine v_ret rfl rfl ?_
  exact k
theorem S_nextTo {x : Int} (hP : PS T h a M) (k : Q (some (0, if 0 ≤ x ∧ x < h then M 60 x else -1)) M) : v_call L (d + 1) 57 [(2, 52), (0, x)] M Q := by
  have q2 := hP.2.2.2.2.1
  refine v_in ?_
  refine v_load rfl rfl ⟨rfl, Nat.le_of_ble_eq_true rfl⟩ ?_
  refine v_load rfl rfl ⟨rfl, Nat.le_of_ble_eq_true rfl⟩ ?_
  refine v_callr rfl ⟨Nat.le_of_ble_eq_true rfl, Nat.le_of_ble_eq_true rfl, rfl, Nat.le_of_ble_eq_true rfl, rfl⟩ ?_
  refine S_isHeld hP ?_
  refine v_ifeq rfl (fun c1 => ?_) (fun c1 => ?_)
  · refine v_push rfl ?_
    refine v_ret rfl rfl ?_
    rw [z_if01] at c1; rw [if_neg c1] at k; exact k
  · rw [z_if01] at c1
    have c1 := Decidable.not_not.mp c1
    refine v_load rfl rfl ⟨rfl, Nat.le_of_ble_eq_true rfl⟩ ?_
    refine v_getp rfl rfl rfl ?_
    refine v_load rfl rfl ⟨rfl, Nat.le_of_ble_eq_true rfl⟩ ?_
    refine v_ald9 rfl rfl ⟨by omega, by show _ < (1216 : Int); omega⟩ ?_
    refine v_goto rfl ?_
    refine v_ret rfl rfl ?_
    rw [if_pos c1] at k; exact k
theorem PS_upd {x y : Int} {b : Int} (hP : PS T h a M) (hb : 53 ≤ b ∧ b ≤ 61) : PS T h a (z_upd M b x y) := by
  obtain ⟨p1, p2, hRT, q1, q2, q3, q4⟩ := hP
  exact ⟨by rw [u_n1 (by omega)]; exact p1, by rw [u_n1 (by omega)]; exact p2, RT_oR (lo := b) (hi := b) hRT (fun c j hc => u_n1 (by omega)) (by omega), q1, q2, q3, q4⟩
end DR
