/-! ITEMS: methods 38 to 42, 37; all modes -/
/-- what items brings: none, or one draft of them all -/
def GI (L : Nat) (T : List zT) (f : Nat) : Prop := ∀ (ne a h : Int) (M : zM) (d : Nat) (Q : Option zV → zM → Prop) (le : List zN) (ts : List (List zN)) (a' inB : Int), P T f 0 ne le a = some (ts, a') → (le = [] ∧ inB = 0 ∨ le ≠ [] ∧ inB = 1) → PS T h a M → a ≤ (T.length : Int) → h + ((bal ts).flatten.length : Int) ≤ 1216 → 0 ≤ ne → ne ≤ 10 → 8 * (10 - ne).toNat + 11 ≤ d →
  (∀ M', bal ts = [] → PS T h a' M' → FR h M M' → Q (some (0, -1)) M') → (∀ M' x I τ, bal ts = [τ] → PS T (h + (τ.length : Int)) a' M' → RES h M (h + (τ.length : Int)) M' x τ I → Q (some (0, x)) M') → v_call L d 38 [(2, 52), (0, ne), (0, inB)] M Q
theorem bal_shape (ts : List (List zN)) : (ts = [] ∧ bal ts = []) ∨ (ts ≠ [] ∧ ∃ τ, bal ts = [τ]) := by
  cases ts with
  | nil => exact Or.inl ⟨rfl, rfl⟩
  | cons t r => exact Or.inr ⟨(fun z => by cases z), _, rfl⟩
section IM
variable {L : Nat} {T : List zT} {f : Nat}
theorem g_all (hT : tkOK T) (hL : GIl L T f) : GI L T f := by
  intro ne a h M d Q le ts a' inB hp hle hP hal hh hn0 hn1 hd k1 k2
  obtain ⟨d, rfl⟩ : ∃ e, d = e + 4 := ⟨d - 4, by omega⟩
  have hl : (T.length : Int) ≤ 300 := by have := hP.2.2.1.2.1; omega
  have ha0 := hP.2.2.2.2.2.1
  obtain ⟨o1, o2, -, -, -, o6⟩ := P_ok0 hT hp ha0 hal
  have o1 : a ≤ a' := o1
  have o2 : a' ≤ (T.length : Int) := o2
  have o6 : (ts.length : Int) ≤ a' - a := o6
  have hbl : (ts.flatten.length : Int) + ((ts.length - 1 : Nat) : Int) = ((bal ts).flatten.length : Int) := by
    by_cases e : ts = []
    · subst e; simp [bal]
    · have := bal_len2 ts e
      have : 0 < ts.length := List.length_pos_iff.mpr e
      omega
  refine v_in ?_
  refine v_push rfl ?_
  refine v_store rfl ⟨rfl, Nat.le_of_ble_eq_true rfl, Nat.le_of_ble_eq_true rfl, rfl⟩ rfl ?_
  refine v_push rfl ?_
  refine v_store rfl ⟨rfl, Nat.le_of_ble_eq_true rfl, Nat.le_of_ble_eq_true rfl, rfl⟩ rfl ?_
  refine v_push rfl ?_
  refine v_store rfl ⟨rfl, Nat.le_of_ble_eq_true rfl, Nat.le_of_ble_eq_true rfl, rfl⟩ rfl ?_
  refine hL ne a h h 0 M M (d + 4) Q [] le ts a' inB _ hp hle hP ⟨fun _ hk => absurd hk List.not_mem_nil, List.nodup_nil, trivial, trivial, fun _ hk => absurd hk List.not_mem_nil, FR_rf⟩ (Int.le_refl _) (by omega) ha0 hal (by omega) hn0 hn1 (by omega) ?_
  intro M1 ks tl tu w p1 t1 e1
  have e1 : trs ks = ts := e1
  have hkl : ks.length = ts.length := by rw [← trs_len, e1]
  refine v_load rfl rfl ⟨rfl, Nat.le_of_ble_eq_true rfl⟩ ?_
  refine v_load rfl rfl ⟨rfl, Nat.le_of_ble_eq_true rfl⟩ ?_
  refine v_callr rfl ⟨Nat.le_of_ble_eq_true rfl, Nat.le_of_ble_eq_true rfl, rfl, Nat.le_of_ble_eq_true rfl, rfl⟩ ?_
  refine S_balanced p1 (by omega) t1 (by omega) (by omega) (fun M2 ks2 p2 t2 e2 => ?_)
  refine v_ret rfl rfl ?_
  rw [e1] at e2
  rw [hkl, show h + (ts.flatten.length : Int) + ((ts.length - 1 : Nat) : Int) = h + ((bal ts).flatten.length : Int) by omega] at p2 t2
  rcases bal_shape ts with ⟨z1, z2⟩ | ⟨z1, τ, z2⟩
  · rw [z2] at e2 p2 t2
    have : ks2 = [] := by
      cases ks2 with
      | nil => rfl
      | cons x y => simp [trs] at e2
    subst this
    refine k1 M2 z2 ?_ t2.2.2.2.2.2
    simpa using p2
  · rw [z2] at e2 p2 t2
    rw [show ([τ] : List (List zN)).flatten = τ by simp] at p2 t2
    cases ks2 with
    | nil => simp [trs] at e2
    | cons x y =>
      have hy : y = [] := by
        cases y with
        | nil => rfl
        | cons u v => simp [trs] at e2
      subst hy
      have hx : x.2.1 = τ := by simpa [trs] using e2
      obtain ⟨h7, hn, -, hk, hr, hF⟩ := t2
      have hm : x ∈ [] ++ [x] := List.mem_cons_self ..
      refine k2 M2 x.1 x.2.2 τ z2 p2 ⟨?_, fun i hi => hr i (ids_mem hm hi), hF, hk.1⟩
      rw [← hx]
      exact h7 x hm
variable {d : Nat} {M M0 : zM} {Q : Option zV → zM → Prop} {h a lo : Int}
/-- hang where there is nothing to hang -/
theorem S_hangN {x so fr sg : Int} {ks : List zK} {M1 : zM} {h1 a1 : Int} (hO : OPN lo M0 M x so fr sg ks h) (hP : PS T h a1 M1) (hF : FR h M M1) (hl : lo ≤ h) (k : PS T h a1 M1 → OPN lo M0 M1 x so fr sg ks h → Q none M1) : v_call L (d + 1) 55 [(2, 52), (0, x), (0, -1)] M1 Q := by
  obtain ⟨ho, hin, hF0⟩ := hO
  have hx := hin x (List.mem_cons_self ..)
  have hx0 := ho.1
  have ho1 : op M1 x so fr sg ks := op_fr ho (fun j hj b b1 b2 _ => hF b j (by omega) (fun _ => (hin j hj).2))
  have kk := k hP ⟨ho1, hin, FR_tr hF0 hF hl⟩
  refine v_in ?_
  refine v_load rfl rfl ⟨rfl, Nat.le_of_ble_eq_true rfl⟩ ?_
  refine v_load rfl rfl ⟨rfl, Nat.le_of_ble_eq_true rfl⟩ ?_
  refine v_callr rfl ⟨Nat.le_of_ble_eq_true rfl, Nat.le_of_ble_eq_true rfl, rfl, Nat.le_of_ble_eq_true rfl, rfl⟩ ?_
  refine S_held hP (by omega) ?_
  refine v_ifeq rfl (fun h => absurd h (by omega)) (fun _ => ?_)
  refine v_load rfl rfl ⟨rfl, Nat.le_of_ble_eq_true rfl⟩ ?_
  refine v_load rfl rfl ⟨rfl, Nat.le_of_ble_eq_true rfl⟩ ?_
  refine v_callr rfl ⟨Nat.le_of_ble_eq_true rfl, Nat.le_of_ble_eq_true rfl, rfl, Nat.le_of_ble_eq_true rfl, rfl⟩ ?_
  refine S_heldN hP (by omega) ?_
  refine v_ifne rfl (fun h => absurd h (by omega)) (fun _ => ?_)
  refine v_ret rfl rfl ?_
  exact kk
theorem g_block (hT : tkOK T) (hI : GI L T f) {ne : Int} {ts : List (List zN)} {ib : Int} (e1 : P T f 0 ne [(0, 0, 0, 0, 0, 0)] (a + 1) = some (ts, ib)) (hP : PS T h a M) (hal : a + 1 ≤ (T.length : Int)) (hh : h + ((bal ts).flatten.length : Int) + 3 ≤ 1216) (hn0 : 0 ≤ ne) (hn1 : ne ≤ 10) (hd : 8 * (10 - ne).toNat + 13 ≤ d)
    (k : ∀ M' x I, PS T (h + ((bal ts).flatten.length : Int) + 3) (clos T 125 ib).2 M' → RES h M (h + ((bal ts).flatten.length : Int) + 3) M' x (mkN 5 a (clos T 125 ib).2 0 ([lfN 16 a 1 123] ++ bal ts ++ [(clos T 125 ib).1])) I → Q (some (0, x)) M') : v_call L d 42 [(2, 52), (0, ne)] M Q := by
  obtain ⟨d, rfl⟩ : ∃ e, d = e + 2 := ⟨d - 2, by omega⟩
  have hl : (T.length : Int) ≤ 300 := by have := hP.2.2.1.2.1; omega
  have ha0 := hP.2.2.2.2.2.1
  obtain ⟨o1, o2, -⟩ := P_ok0 hT e1 (by omega) hal
  have o1 : a + 1 ≤ ib := o1
  have o2 : ib ≤ (T.length : Int) := o2
  refine v_in ?_
  have rest : ∀ M1 ks h1, PS T h1 ib M1 → OPN h M M1 h 5 a 0 ks h1 → trs ks = [lfN 16 a 1 123] ++ bal ts → h1 = h + ((bal ts).flatten.length : Int) + 2 → v_wp L (d + 2) 42 33 [(2, 52), (0, ne), (0, h)] [] M1 Q := by
    intro M1 ks h1 p1 o1 e2 e3
    refine v_load rfl rfl ⟨rfl, Nat.le_of_ble_eq_true rfl⟩ ?_
    refine v_load rfl rfl ⟨rfl, Nat.le_of_ble_eq_true rfl⟩ ?_
    refine v_load rfl rfl ⟨rfl, Nat.le_of_ble_eq_true rfl⟩ ?_
    refine v_push rfl ?_
    refine v_callr rfl ⟨Nat.le_of_ble_eq_true rfl, Nat.le_of_ble_eq_true rfl, rfl, Nat.le_of_ble_eq_true rfl, rfl⟩ ?_
    refine S_closing p1 (by omega) (by omega) (fun M8 x8 I8 p8 r8 => ?_)
    refine v_callr rfl ⟨Nat.le_of_ble_eq_true rfl, Nat.le_of_ble_eq_true rfl, rfl, Nat.le_of_ble_eq_true rfl, rfl⟩ ?_
    refine S_hang o1 p8 (by omega) r8 (fun M9 p9 o9 => ?_)
    refine v_load rfl rfl ⟨rfl, Nat.le_of_ble_eq_true rfl⟩ ?_
    refine v_load rfl rfl ⟨rfl, Nat.le_of_ble_eq_true rfl⟩ ?_
    refine v_callr rfl ⟨Nat.le_of_ble_eq_true rfl, Nat.le_of_ble_eq_true rfl, rfl, Nat.le_of_ble_eq_true rfl, rfl⟩ ?_
    refine S_shut o9 p9 (fun M10 p10 r10 => ?_)
    refine v_ret rfl rfl ?_
    rw [trs_snoc, e2] at r10
    exact GE_fin (by omega) p10 r10 k
  refine v_load rfl rfl ⟨rfl, Nat.le_of_ble_eq_true rfl⟩ ?_
  refine v_push rfl ?_
  refine v_push rfl ?_
  refine v_push rfl ?_
  refine v_callr rfl ⟨Nat.le_of_ble_eq_true rfl, Nat.le_of_ble_eq_true rfl, rfl, Nat.le_of_ble_eq_true rfl, rfl⟩ ?_
  refine S_open hP (by omega) (by omega) (fun M1 p1 o1 => ?_)
  refine v_store rfl ⟨rfl, Nat.le_of_ble_eq_true rfl, Nat.le_of_ble_eq_true rfl, rfl⟩ rfl ?_
  refine v_load rfl rfl ⟨rfl, Nat.le_of_ble_eq_true rfl⟩ ?_
  refine v_load rfl rfl ⟨rfl, Nat.le_of_ble_eq_true rfl⟩ ?_
  refine v_load rfl rfl ⟨rfl, Nat.le_of_ble_eq_true rfl⟩ ?_
  refine v_push rfl ?_
  refine v_push rfl ?_
  refine v_push rfl ?_
  refine v_callr rfl ⟨Nat.le_of_ble_eq_true rfl, Nat.le_of_ble_eq_true rfl, rfl, Nat.le_of_ble_eq_true rfl, rfl⟩ ?_
  refine S_leaf p1 (by omega) (Or.inr rfl) (by omega) (fun M2 x2 I2 p2 r2 => ?_)
  refine v_callr rfl ⟨Nat.le_of_ble_eq_true rfl, Nat.le_of_ble_eq_true rfl, rfl, Nat.le_of_ble_eq_true rfl, rfl⟩ ?_
  refine S_hang o1 p2 (by omega) r2 (fun M3 p3 o3 => ?_)
  refine v_load rfl rfl ⟨rfl, Nat.le_of_ble_eq_true rfl⟩ ?_
  refine v_load rfl rfl ⟨rfl, Nat.le_of_ble_eq_true rfl⟩ ?_
  refine v_load rfl rfl ⟨rfl, Nat.le_of_ble_eq_true rfl⟩ ?_
  refine v_load rfl rfl ⟨rfl, Nat.le_of_ble_eq_true rfl⟩ ?_
  refine v_push rfl ?_
  refine v_callr rfl ⟨Nat.le_of_ble_eq_true rfl, Nat.le_of_ble_eq_true rfl, rfl, Nat.le_of_ble_eq_true rfl, rfl⟩ ?_
  refine hI ne (a + 1) _ M3 (d + 1) _ _ ts ib 1 e1 (Or.inr ⟨by simp, rfl⟩) p3 hal (by omega) hn0 hn1 (by omega) ?_ ?_
  · intro M4 z p4 f4
    refine v_callr rfl ⟨Nat.le_of_ble_eq_true rfl, Nat.le_of_ble_eq_true rfl, rfl, Nat.le_of_ble_eq_true rfl, rfl⟩ ?_
    refine S_hangN (h1 := 0) o3 p4 f4 (by omega) (fun p5 o5 => ?_)
    exact rest M4 _ _ p5 o5 (by rw [z]; rfl) (by rw [z]; simp; omega)
  · intro M4 x4 I4 τ z p4 r4
    refine v_callr rfl ⟨Nat.le_of_ble_eq_true rfl, Nat.le_of_ble_eq_true rfl, rfl, Nat.le_of_ble_eq_true rfl, rfl⟩ ?_
    refine S_hang o3 p4 (by omega) r4 (fun M5 p5 o5 => ?_)
    exact rest M5 _ _ p5 o5 (by rw [z]; rfl) (by rw [z]; simp; omega)
theorem g_body (hT : tkOK T) (hI : GE L T f 1 39 8) : GE L T (f + 1) 2 41 9 := by
  intro ne a h M d Q τ a' hp hP hal _ hh hn0 hn1 hd k
  obtain ⟨d, rfl⟩ : ∃ e, d = e + 2 := ⟨d - 2, by omega⟩
  have p2 := hP.2.1
  have hl : (T.length : Int) ≤ 300 := by have := hP.2.2.1.2.1; omega
  have ha0 := hP.2.2.2.2.2.1
  unfold P at hp
  simp only at hp
  refine v_in ?_
  refine v_load rfl rfl ⟨rfl, Nat.le_of_ble_eq_true rfl⟩ ?_
  refine v_getp rfl rfl rfl ?_
  refine v_load rfl rfl ⟨rfl, Nat.le_of_ble_eq_true rfl⟩ ?_
  refine v_getx rfl rfl p2 ?_
  refine v_callr rfl ⟨Nat.le_of_ble_eq_true rfl, Nat.le_of_ble_eq_true rfl, rfl, Nat.le_of_ble_eq_true rfl, rfl⟩ ?_
  refine S_sgn hP ?_
  refine v_store rfl ⟨rfl, Nat.le_of_ble_eq_true rfl, Nat.le_of_ble_eq_true rfl, rfl⟩ rfl ?_
  refine v_load rfl rfl ⟨rfl, Nat.le_of_ble_eq_true rfl⟩ ?_
  refine v_getp rfl rfl rfl ?_
  refine v_load rfl rfl ⟨rfl, Nat.le_of_ble_eq_true rfl⟩ ?_
  refine v_getx rfl rfl p2 ?_
  refine v_callr rfl ⟨Nat.le_of_ble_eq_true rfl, Nat.le_of_ble_eq_true rfl, rfl, Nat.le_of_ble_eq_true rfl, rfl⟩ ?_
  refine S_srt hP ?_
  have item : (srt T a = 0 ∧ sgn T a ≠ 2) ∨ sgn T a = 123 ∨ sgn T a = 59 → ∀ w, v_wp L (d + 2) 41 53 [(2, 52), (0, ne), (0, sgn T a), w] [] M Q := by
    intro hc w
    rw [if_pos hc] at hp
    have hlt := (istart_lt (T := T) (i := a) hc).2
    refine v_load rfl rfl ⟨rfl, Nat.le_of_ble_eq_true rfl⟩ ?_
    refine v_load rfl rfl ⟨rfl, Nat.le_of_ble_eq_true rfl⟩ ?_
    refine v_callr rfl ⟨Nat.le_of_ble_eq_true rfl, Nat.le_of_ble_eq_true rfl, rfl, Nat.le_of_ble_eq_true rfl, rfl⟩ ?_
    refine hI ne a h M (d + 1) _ τ a' hp hP hal (fun _ => hlt) hh hn0 hn1 (by omega) (fun M1 x1 I1 p1 r1 => ?_)
    refine v_ret rfl rfl ?_
    exact k M1 x1 I1 p1 r1
  have none_ : ¬ ((srt T a = 0 ∧ sgn T a ≠ 2) ∨ sgn T a = 123 ∨ sgn T a = 59) → ∀ w, v_wp L (d + 2) 41 59 [(2, 52), (0, ne), (0, sgn T a), w] [] M Q := by
    intro hc w
    rw [if_neg hc] at hp
    obtain ⟨rfl, rfl⟩ : lfN 17 a 0 0 = τ ∧ a = a' := by simpa using hp
    rw [lfN_len] at hh k
    refine v_load rfl rfl ⟨rfl, Nat.le_of_ble_eq_true rfl⟩ ?_
    refine v_push rfl ?_
    refine v_push rfl ?_
    refine v_push rfl ?_
    refine v_callr rfl ⟨Nat.le_of_ble_eq_true rfl, Nat.le_of_ble_eq_true rfl, rfl, Nat.le_of_ble_eq_true rfl, rfl⟩ ?_
    refine S_leaf hP (by omega) (Or.inl rfl) (by omega) (fun M' x I k1 k2 => ?_)
    refine v_ret rfl rfl ?_
    exact k M' x I (by rw [Int.add_zero] at k1; exact k1) k2
  have more : ¬ (srt T a = 0 ∧ sgn T a ≠ 2) → ∀ w, v_wp L (d + 2) 41 41 [(2, 52), (0, ne), (0, sgn T a), w] [] M Q := by
    intro hc w
    refine v_load rfl rfl ⟨rfl, Nat.le_of_ble_eq_true rfl⟩ ?_
    refine v_push rfl ?_
    refine v_ieq rfl (fun c1 => ?_) (fun c1 => ?_)
    · exact item (Or.inr (Or.inl c1)) _
    · refine v_load rfl rfl ⟨rfl, Nat.le_of_ble_eq_true rfl⟩ ?_
      refine v_push rfl ?_
      refine v_ine rfl (fun c2 => ?_) (fun c2 => ?_)
      · exact none_ (fun z => z.elim hc (fun z => z.elim c1 c2)) _
      · exact item (Or.inr (Or.inr c2)) _
  refine v_ifne rfl (fun c1 => ?_) (fun c1 => ?_)
  · refine v_push rfl ?_
    refine v_store rfl ⟨rfl, Nat.le_of_ble_eq_true rfl, Nat.le_of_ble_eq_true rfl, rfl⟩ rfl ?_
    refine v_load rfl rfl ⟨rfl, Nat.le_of_ble_eq_true rfl⟩ ?_
    refine v_ifne rfl (fun h => absurd h (by omega)) (fun _ => ?_)
    exact more (fun z => c1 z.1) _
  · refine v_load rfl rfl ⟨rfl, Nat.le_of_ble_eq_true rfl⟩ ?_
    refine v_push rfl ?_
    refine v_ieq rfl (fun c2 => ?_) (fun c2 => ?_)
    · refine v_push rfl ?_
      refine v_store rfl ⟨rfl, Nat.le_of_ble_eq_true rfl, Nat.le_of_ble_eq_true rfl, rfl⟩ rfl ?_
      refine v_load rfl rfl ⟨rfl, Nat.le_of_ble_eq_true rfl⟩ ?_
      refine v_ifne rfl (fun h => absurd h (by omega)) (fun _ => ?_)
      exact more (fun z => z.2 c2) _
    · refine v_push rfl ?_
      refine v_goto rfl ?_
      refine v_store rfl ⟨rfl, Nat.le_of_ble_eq_true rfl, Nat.le_of_ble_eq_true rfl, rfl⟩ rfl ?_
      refine v_load rfl rfl ⟨rfl, Nat.le_of_ble_eq_true rfl⟩ ?_
      refine v_ifne rfl (fun _ => ?_) (fun h => absurd h (by omega))
      exact item (Or.inl ⟨c1, c2⟩) _
theorem g_branch (hT : tkOK T) (hE : GE L T f 3 45 6) (hB : GE L T f 2 41 9) {ne so : Int} {τ : List zN} {τs : List (List zN)} {a' : Int} (hso : so = if sgn T a = 1 then 6 else 7) (hp : ((P T f 3 ne [] (a + 1)).bind fun e => (P T f 2 ne [] e.2).bind fun b =>
          if sgn T a = 1 ∧ sgn T b.2 = 2 then (P T f 2 ne [] (b.2 + 1)).bind fun b2 => some ([mkN 6 a b2.2 0 ([lfN 16 a 1 0] ++ e.1 ++ b.1 ++ [lfN 16 b.2 1 0] ++ b2.1)], b2.2)
          else some ([mkN (if sgn T a = 1 then 6 else 7) a b.2 0 ([lfN 16 a 1 0] ++ e.1 ++ b.1)], b.2)) = some ([τ], a')) (hP : PS T h a M) (hal : a + 1 ≤ (T.length : Int)) (hh : h + (τ.length : Int) ≤ 1216) (hn0 : 0 ≤ ne) (hn1 : ne ≤ 10) (hd : 8 * (10 - ne).toNat + 12 ≤ d)
    (k : ∀ M' x I, PS T (h + (τ.length : Int)) a' M' → RES h M (h + (τ.length : Int)) M' x τ I → Q (some (0, x)) M') : v_call L d 40 [(2, 52), (0, so), (0, ne)] M Q := by
  obtain ⟨d, rfl⟩ : ∃ e, d = e + 2 := ⟨d - 2, by omega⟩
  have hl : (T.length : Int) ≤ 300 := by have := hP.2.2.1.2.1; omega
  have ha0 := hP.2.2.2.2.2.1
  obtain ⟨e, e1, hp⟩ := ob_some hp
  obtain ⟨τe, q1, q2, q3, q4, -⟩ := P_ok3 hT e1 (by omega) hal
  obtain ⟨ea, eb⟩ := e
  have q1 : ea = [τe] := q1
  subst q1
  have q3 : a + 1 ≤ eb := q3
  have q4 : eb ≤ (T.length : Int) := q4
  obtain ⟨b, e2, hp⟩ := ob_some hp
  obtain ⟨ba, bb⟩ := b
  have e2 : P T f 2 ne [] eb = some (ba, bb) := e2
  obtain ⟨τb, b1, b2, b3, b4⟩ := okB_one (P_ok2 hT e2 (by omega) q4) q4
  have b1 : ba = [τb] := b1
  subst b1
  have b3 : eb ≤ bb := b3
  have b4 : bb ≤ (T.length : Int) := b4
  by_cases hc : sgn T a = 1 ∧ sgn T bb = 2
  · have hp : (if sgn T a = 1 ∧ sgn T bb = 2 then _ else _) = _ := hp
    rw [if_pos hc] at hp
    have hlt := (sgn_lt (T := T) (i := bb) (by omega)).2
    obtain ⟨c, e3, hp⟩ := ob_some hp
    obtain ⟨ca, cb⟩ := c
    have e3 : P T f 2 ne [] (bb + 1) = some (ca, cb) := e3
    obtain ⟨τc, c1, c2, c3, c4⟩ := okB_one (P_ok2 hT e3 (by omega) (by omega)) (by omega)
    have c1 : ca = [τc] := c1
    subst c1
    have c3 : bb + 1 ≤ cb := c3
    have c4 : cb ≤ (T.length : Int) := c4
    obtain ⟨rfl, rfl⟩ : mkN 6 a cb 0 ([lfN 16 a 1 0] ++ [τe] ++ [τb] ++ [lfN 16 bb 1 0] ++ [τc]) = τ ∧ cb = a' := by simpa using hp
    have hlen : (mkN 6 a cb 0 ([lfN 16 a 1 0] ++ [τe] ++ [τb] ++ [lfN 16 bb 1 0] ++ [τc])).length = τe.length + τb.length + τc.length + 3 := by
      rw [mkN_len]; simp only [List.flatten_append, List.flatten_cons, List.flatten_nil, List.append_nil, List.length_append, lfN_len]; omega
    rw [hlen] at hh k
    obtain ⟨hc1, hc2⟩ := hc
    rw [if_pos hc1] at hso
    subst hso
    refine v_in ?_
    refine v_load rfl rfl ⟨rfl, Nat.le_of_ble_eq_true rfl⟩ ?_
    refine v_load rfl rfl ⟨rfl, Nat.le_of_ble_eq_true rfl⟩ ?_
    refine v_push rfl ?_
    refine v_push rfl ?_
    refine v_callr rfl ⟨Nat.le_of_ble_eq_true rfl, Nat.le_of_ble_eq_true rfl, rfl, Nat.le_of_ble_eq_true rfl, rfl⟩ ?_
    refine S_open hP (by omega) (by omega) (fun M1 p1 o1 => ?_)
    refine v_store rfl ⟨rfl, Nat.le_of_ble_eq_true rfl, Nat.le_of_ble_eq_true rfl, rfl⟩ rfl ?_
    refine v_load rfl rfl ⟨rfl, Nat.le_of_ble_eq_true rfl⟩ ?_
    refine v_load rfl rfl ⟨rfl, Nat.le_of_ble_eq_true rfl⟩ ?_
    refine v_load rfl rfl ⟨rfl, Nat.le_of_ble_eq_true rfl⟩ ?_
    refine v_push rfl ?_
    refine v_push rfl ?_
    refine v_push rfl ?_
    refine v_callr rfl ⟨Nat.le_of_ble_eq_true rfl, Nat.le_of_ble_eq_true rfl, rfl, Nat.le_of_ble_eq_true rfl, rfl⟩ ?_
    refine S_leaf p1 (by omega) (Or.inr rfl) (by omega) (fun M2 x2 I2 p2 r2 => ?_)
    refine v_callr rfl ⟨Nat.le_of_ble_eq_true rfl, Nat.le_of_ble_eq_true rfl, rfl, Nat.le_of_ble_eq_true rfl, rfl⟩ ?_
    refine S_hang o1 p2 (by omega) r2 (fun M3 p3 o3 => ?_)
    refine v_load rfl rfl ⟨rfl, Nat.le_of_ble_eq_true rfl⟩ ?_
    refine v_load rfl rfl ⟨rfl, Nat.le_of_ble_eq_true rfl⟩ ?_
    refine v_load rfl rfl ⟨rfl, Nat.le_of_ble_eq_true rfl⟩ ?_
    refine v_load rfl rfl ⟨rfl, Nat.le_of_ble_eq_true rfl⟩ ?_
    refine v_callr rfl ⟨Nat.le_of_ble_eq_true rfl, Nat.le_of_ble_eq_true rfl, rfl, Nat.le_of_ble_eq_true rfl, rfl⟩ ?_
    refine hE ne (a + 1) _ M3 (d + 1) _ τe eb e1 p3 hal (by omega) (by omega) hn0 hn1 (by omega) (fun M4 x4 I4 p4 r4 => ?_)
    refine v_callr rfl ⟨Nat.le_of_ble_eq_true rfl, Nat.le_of_ble_eq_true rfl, rfl, Nat.le_of_ble_eq_true rfl, rfl⟩ ?_
    refine S_hang o3 p4 (by omega) r4 (fun M5 p5 o5 => ?_)
    refine v_load rfl rfl ⟨rfl, Nat.le_of_ble_eq_true rfl⟩ ?_
    refine v_load rfl rfl ⟨rfl, Nat.le_of_ble_eq_true rfl⟩ ?_
    refine v_load rfl rfl ⟨rfl, Nat.le_of_ble_eq_true rfl⟩ ?_
    refine v_load rfl rfl ⟨rfl, Nat.le_of_ble_eq_true rfl⟩ ?_
    refine v_callr rfl ⟨Nat.le_of_ble_eq_true rfl, Nat.le_of_ble_eq_true rfl, rfl, Nat.le_of_ble_eq_true rfl, rfl⟩ ?_
    refine hB ne eb _ M5 (d + 1) _ τb bb e2 p5 q4 (by omega) (by omega) hn0 hn1 (by omega) (fun M6 x6 I6 p6 r6 => ?_)
    refine v_callr rfl ⟨Nat.le_of_ble_eq_true rfl, Nat.le_of_ble_eq_true rfl, rfl, Nat.le_of_ble_eq_true rfl, rfl⟩ ?_
    refine S_hang o5 p6 (by omega) r6 (fun M7 p7 o7 => ?_)
    refine v_load rfl rfl ⟨rfl, Nat.le_of_ble_eq_true rfl⟩ ?_
    refine v_push rfl ?_
    refine v_ine rfl (fun h => absurd h (by omega)) (fun _ => ?_)
    refine v_load rfl rfl ⟨rfl, Nat.le_of_ble_eq_true rfl⟩ ?_
    refine v_getp rfl rfl rfl ?_
    refine v_load rfl rfl ⟨rfl, Nat.le_of_ble_eq_true rfl⟩ ?_
    refine v_getx rfl rfl (p7.2.1) ?_
    refine v_callr rfl ⟨Nat.le_of_ble_eq_true rfl, Nat.le_of_ble_eq_true rfl, rfl, Nat.le_of_ble_eq_true rfl, rfl⟩ ?_
    refine S_sgn p7 ?_
    refine v_push rfl ?_
    refine v_ine rfl (fun h => absurd h (by omega)) (fun _ => ?_)
    refine v_load rfl rfl ⟨rfl, Nat.le_of_ble_eq_true rfl⟩ ?_
    refine v_load rfl rfl ⟨rfl, Nat.le_of_ble_eq_true rfl⟩ ?_
    refine v_load rfl rfl ⟨rfl, Nat.le_of_ble_eq_true rfl⟩ ?_
    refine v_push rfl ?_
    refine v_push rfl ?_
    refine v_push rfl ?_
    refine v_callr rfl ⟨Nat.le_of_ble_eq_true rfl, Nat.le_of_ble_eq_true rfl, rfl, Nat.le_of_ble_eq_true rfl, rfl⟩ ?_
    refine S_leaf p7 (by omega) (Or.inr rfl) (by omega) (fun M8 x8 I8 p8 r8 => ?_)
    refine v_callr rfl ⟨Nat.le_of_ble_eq_true rfl, Nat.le_of_ble_eq_true rfl, rfl, Nat.le_of_ble_eq_true rfl, rfl⟩ ?_
    refine S_hang o7 p8 (by omega) r8 (fun M9 p9 o9 => ?_)
    refine v_load rfl rfl ⟨rfl, Nat.le_of_ble_eq_true rfl⟩ ?_
    refine v_load rfl rfl ⟨rfl, Nat.le_of_ble_eq_true rfl⟩ ?_
    refine v_load rfl rfl ⟨rfl, Nat.le_of_ble_eq_true rfl⟩ ?_
    refine v_load rfl rfl ⟨rfl, Nat.le_of_ble_eq_true rfl⟩ ?_
    refine v_callr rfl ⟨Nat.le_of_ble_eq_true rfl, Nat.le_of_ble_eq_true rfl, rfl, Nat.le_of_ble_eq_true rfl, rfl⟩ ?_
    refine hB ne (bb + 1) _ M9 (d + 1) _ τc cb e3 p9 (by omega) (by omega) (by omega) hn0 hn1 (by omega) (fun M10 x10 I10 p10 r10 => ?_)
    refine v_callr rfl ⟨Nat.le_of_ble_eq_true rfl, Nat.le_of_ble_eq_true rfl, rfl, Nat.le_of_ble_eq_true rfl, rfl⟩ ?_
    refine S_hang o9 p10 (by omega) r10 (fun M11 p11 o11 => ?_)
    refine v_load rfl rfl ⟨rfl, Nat.le_of_ble_eq_true rfl⟩ ?_
    refine v_load rfl rfl ⟨rfl, Nat.le_of_ble_eq_true rfl⟩ ?_
    refine v_callr rfl ⟨Nat.le_of_ble_eq_true rfl, Nat.le_of_ble_eq_true rfl, rfl, Nat.le_of_ble_eq_true rfl, rfl⟩ ?_
    refine S_shut o11 p11 (fun M12 p12 r12 => ?_)
    refine v_ret rfl rfl ?_
    exact GE_fin (by omega) p12 r12 k
  · have hp : (if sgn T a = 1 ∧ sgn T bb = 2 then _ else _) = _ := hp
    rw [if_neg hc, ← hso] at hp
    obtain ⟨rfl, rfl⟩ : mkN so a bb 0 ([lfN 16 a 1 0] ++ [τe] ++ [τb]) = τ ∧ bb = a' := by simpa using hp
    have hlen : (mkN so a bb 0 ([lfN 16 a 1 0] ++ [τe] ++ [τb])).length = τe.length + τb.length + 2 := by
      rw [mkN_len]; simp only [List.flatten_append, List.flatten_cons, List.flatten_nil, List.append_nil, List.length_append, lfN_len]; omega
    rw [hlen] at hh k
    have h6 : so = 6 → sgn T a = 1 := by
      intro z
      by_cases y : sgn T a = 1
      · exact y
      · rw [if_neg y] at hso; omega
    have fin : ∀ M7 ks h7, PS T h7 bb M7 → OPN h M M7 h so a 0 ks h7 → trs ks = [lfN 16 a 1 0] ++ [τe] ++ [τb] → h7 = h + ((τe.length + τb.length + 2 : Nat) : Int) → v_wp L (d + 2) 40 85 [(2, 52), (0, so), (0, ne), (0, h)] [] M7 Q := by
      intro M7 ks h7 p7 o7 z1 z2
      refine v_load rfl rfl ⟨rfl, Nat.le_of_ble_eq_true rfl⟩ ?_
      refine v_load rfl rfl ⟨rfl, Nat.le_of_ble_eq_true rfl⟩ ?_
      refine v_callr rfl ⟨Nat.le_of_ble_eq_true rfl, Nat.le_of_ble_eq_true rfl, rfl, Nat.le_of_ble_eq_true rfl, rfl⟩ ?_
      refine S_shut o7 p7 (fun M12 p12 r12 => ?_)
      refine v_ret rfl rfl ?_
      rw [z1] at r12
      exact GE_fin z2 p12 r12 k
    refine v_in ?_
    refine v_load rfl rfl ⟨rfl, Nat.le_of_ble_eq_true rfl⟩ ?_
    refine v_load rfl rfl ⟨rfl, Nat.le_of_ble_eq_true rfl⟩ ?_
    refine v_push rfl ?_
    refine v_push rfl ?_
    refine v_callr rfl ⟨Nat.le_of_ble_eq_true rfl, Nat.le_of_ble_eq_true rfl, rfl, Nat.le_of_ble_eq_true rfl, rfl⟩ ?_
    refine S_open hP (by omega) (by omega) (fun M1 p1 o1 => ?_)
    refine v_store rfl ⟨rfl, Nat.le_of_ble_eq_true rfl, Nat.le_of_ble_eq_true rfl, rfl⟩ rfl ?_
    refine v_load rfl rfl ⟨rfl, Nat.le_of_ble_eq_true rfl⟩ ?_
    refine v_load rfl rfl ⟨rfl, Nat.le_of_ble_eq_true rfl⟩ ?_
    refine v_load rfl rfl ⟨rfl, Nat.le_of_ble_eq_true rfl⟩ ?_
    refine v_push rfl ?_
    refine v_push rfl ?_
    refine v_push rfl ?_
    refine v_callr rfl ⟨Nat.le_of_ble_eq_true rfl, Nat.le_of_ble_eq_true rfl, rfl, Nat.le_of_ble_eq_true rfl, rfl⟩ ?_
    refine S_leaf p1 (by omega) (Or.inr rfl) (by omega) (fun M2 x2 I2 p2 r2 => ?_)
    refine v_callr rfl ⟨Nat.le_of_ble_eq_true rfl, Nat.le_of_ble_eq_true rfl, rfl, Nat.le_of_ble_eq_true rfl, rfl⟩ ?_
    refine S_hang o1 p2 (by omega) r2 (fun M3 p3 o3 => ?_)
    refine v_load rfl rfl ⟨rfl, Nat.le_of_ble_eq_true rfl⟩ ?_
    refine v_load rfl rfl ⟨rfl, Nat.le_of_ble_eq_true rfl⟩ ?_
    refine v_load rfl rfl ⟨rfl, Nat.le_of_ble_eq_true rfl⟩ ?_
    refine v_load rfl rfl ⟨rfl, Nat.le_of_ble_eq_true rfl⟩ ?_
    refine v_callr rfl ⟨Nat.le_of_ble_eq_true rfl, Nat.le_of_ble_eq_true rfl, rfl, Nat.le_of_ble_eq_true rfl, rfl⟩ ?_
    refine hE ne (a + 1) _ M3 (d + 1) _ τe eb e1 p3 hal (by omega) (by omega) hn0 hn1 (by omega) (fun M4 x4 I4 p4 r4 => ?_)
    refine v_callr rfl ⟨Nat.le_of_ble_eq_true rfl, Nat.le_of_ble_eq_true rfl, rfl, Nat.le_of_ble_eq_true rfl, rfl⟩ ?_
    refine S_hang o3 p4 (by omega) r4 (fun M5 p5 o5 => ?_)
    refine v_load rfl rfl ⟨rfl, Nat.le_of_ble_eq_true rfl⟩ ?_
    refine v_load rfl rfl ⟨rfl, Nat.le_of_ble_eq_true rfl⟩ ?_
    refine v_load rfl rfl ⟨rfl, Nat.le_of_ble_eq_true rfl⟩ ?_
    refine v_load rfl rfl ⟨rfl, Nat.le_of_ble_eq_true rfl⟩ ?_
    refine v_callr rfl ⟨Nat.le_of_ble_eq_true rfl, Nat.le_of_ble_eq_true rfl, rfl, Nat.le_of_ble_eq_true rfl, rfl⟩ ?_
    refine hB ne eb _ M5 (d + 1) _ τb bb e2 p5 q4 (by omega) (by omega) hn0 hn1 (by omega) (fun M6 x6 I6 p6 r6 => ?_)
    refine v_callr rfl ⟨Nat.le_of_ble_eq_true rfl, Nat.le_of_ble_eq_true rfl, rfl, Nat.le_of_ble_eq_true rfl, rfl⟩ ?_
    refine S_hang o5 p6 (by omega) r6 (fun M7 p7 o7 => ?_)
    refine v_load rfl rfl ⟨rfl, Nat.le_of_ble_eq_true rfl⟩ ?_
    refine v_push rfl ?_
    refine v_ine rfl (fun z => ?_) (fun z => ?_)
    · exact fin M7 _ _ p7 o7 rfl (by omega)
    · refine v_load rfl rfl ⟨rfl, Nat.le_of_ble_eq_true rfl⟩ ?_
      refine v_getp rfl rfl rfl ?_
      refine v_load rfl rfl ⟨rfl, Nat.le_of_ble_eq_true rfl⟩ ?_
      refine v_getx rfl rfl (p7.2.1) ?_
      refine v_callr rfl ⟨Nat.le_of_ble_eq_true rfl, Nat.le_of_ble_eq_true rfl, rfl, Nat.le_of_ble_eq_true rfl, rfl⟩ ?_
      refine S_sgn p7 ?_
      refine v_push rfl ?_
      refine v_ine rfl (fun _ => ?_) (fun h => absurd h (fun z2 => hc ⟨h6 z, z2⟩))
      exact fin M7 _ _ p7 o7 rfl (by omega)
theorem g_qb (hT : tkOK T) {ne a : Int} {qs : List (List zN)} {qb : Int} (e1 : (if sgn T (a + 2) = 41 then some ([], a + 2) else (P T f 3 ne [] (a + 2)).bind fun e => (P T f 8 ne [] e.2).bind fun r => some ([mkN 4 (a + 2) r.2 0 (e.1 ++ r.1)], r.2)) = some (qs, qb)) (h0 : 0 ≤ a + 2 ∧ a + 2 ≤ (T.length : Int)) : 0 ≤ qb ∧ qb ≤ (T.length : Int) := by
  split at e1
  · obtain ⟨rfl, rfl⟩ : [] = qs ∧ a + 2 = qb := by simpa using e1
    exact h0
  · obtain ⟨e, g1, g2⟩ := ob_some e1
    obtain ⟨τe, q1, q2, q3, q4, q5, q6, q7⟩ := P_ok3 hT g1 h0.1 h0.2
    obtain ⟨r, g3, g4⟩ := ob_some g2
    obtain ⟨c1, c2, c3⟩ := P_ok8 hT g3 (by omega) q4
    obtain ⟨-, e4⟩ : [mkN 4 (a + 2) r.2 0 (e.1 ++ r.1)] = qs ∧ r.2 = qb := by simpa using g4
    omega
theorem g_item (hT : tkOK T) (hE : GE L T f 3 45 6) (hB : GE L T f 2 41 9) (hI : GI L T f) (hL : GLs L T f) : GE L T (f + 1) 1 39 8 := by
  intro ne a h M d Q τ a' hp hP hal hlt hh hn0 hn1 hd k
  obtain ⟨d, rfl⟩ : ∃ e, d = e + 2 := ⟨d - 2, by omega⟩
  have hlt := hlt rfl
  have p2 := hP.2.1
  have hl : (T.length : Int) ≤ 300 := by have := hP.2.2.1.2.1; omega
  have ha0 := hP.2.2.2.2.2.1
  unfold P at hp
  simp only at hp
  have main : ∀ o : Int, (o = if ne < 10 then 1 else 0) → ∀ w, v_wp L (d + 2) 39 24 [(2, 52), (0, ne), (0, o), (0, sgn T a), w] [] M Q := by
    intro o ho w
    have ho1 : ¬ o = 0 → ne < 10 := by
      intro z
      by_cases y : ne < 10
      · exact y
      · rw [if_neg y] at ho; omega
    have ho2 : o = 0 → ¬ ne < 10 := by
      intro z y
      rw [if_pos y] at ho
      omega
    have err : ¬ ((sgn T a = 1 ∨ sgn T a = 3) ∧ ne < 10) → ¬ (sgn T a = 123 ∧ ne < 10) → ¬ sgn T a = 59 → ¬ ((srt T a = 0 ∧ sgn T a = 0) ∧ sgn T (a + 1) = 61) → ¬ ((srt T a = 0 ∧ sgn T a = 0) ∧ sgn T (a + 1) = 40) → ∀ w, v_wp L (d + 2) 39 143 [(2, 52), (0, ne), (0, o), (0, sgn T a), w] [] M Q := by
      intro z1 z2 z3 z4 z5 w
      rw [if_neg z1, if_neg z2, if_neg z3, if_neg z4, if_neg z5] at hp
      obtain ⟨rfl, rfl⟩ : lfN 9 a 1 0 = τ ∧ a + 1 = a' := by simpa using hp
      rw [lfN_len] at hh k
      refine v_load rfl rfl ⟨rfl, Nat.le_of_ble_eq_true rfl⟩ ?_
      refine v_push rfl ?_
      refine v_push rfl ?_
      refine v_push rfl ?_
      refine v_callr rfl ⟨Nat.le_of_ble_eq_true rfl, Nat.le_of_ble_eq_true rfl, rfl, Nat.le_of_ble_eq_true rfl, rfl⟩ ?_
      refine S_leaf hP (by omega) (Or.inr rfl) (by omega) (fun M' x I k1 k2 => ?_)
      refine v_ret rfl rfl ?_
      exact k M' x I k1 k2
    have plain : ¬ ((sgn T a = 1 ∨ sgn T a = 3) ∧ ne < 10) → ¬ (sgn T a = 123 ∧ ne < 10) → v_wp L (d + 2) 39 80 [(2, 52), (0, ne), (0, o), (0, sgn T a), w] [] M Q := by
      intro z1 z2
      refine v_load rfl rfl ⟨rfl, Nat.le_of_ble_eq_true rfl⟩ ?_
      refine v_push rfl ?_
      refine v_ine rfl (fun c3 => ?_) (fun c3 => ?_)
      · refine v_load rfl rfl ⟨rfl, Nat.le_of_ble_eq_true rfl⟩ ?_
        refine v_callr rfl ⟨Nat.le_of_ble_eq_true rfl, Nat.le_of_ble_eq_true rfl, rfl, Nat.le_of_ble_eq_true rfl, rfl⟩ ?_
        refine S_isPlain hP ?_
        refine v_ifeq rfl (fun c4 => ?_) (fun c4 => ?_)
        · rw [z_if01] at c4
          exact err z1 z2 c3 (fun z => c4 z.1) (fun z => c4 z.1) _
        · rw [z_if01] at c4
          have c4 := Decidable.not_not.mp c4
          refine v_load rfl rfl ⟨rfl, Nat.le_of_ble_eq_true rfl⟩ ?_
          refine v_getp rfl rfl rfl ?_
          refine v_load rfl rfl ⟨rfl, Nat.le_of_ble_eq_true rfl⟩ ?_
          refine v_getx rfl rfl p2 ?_
          refine v_push rfl ?_
          refine v_add rfl (by omega) ?_
          refine v_callr rfl ⟨Nat.le_of_ble_eq_true rfl, Nat.le_of_ble_eq_true rfl, rfl, Nat.le_of_ble_eq_true rfl, rfl⟩ ?_
          refine S_sgn hP ?_
          refine v_store rfl ⟨rfl, Nat.le_of_ble_eq_true rfl, Nat.le_of_ble_eq_true rfl, rfl⟩ rfl ?_
          refine v_load rfl rfl ⟨rfl, Nat.le_of_ble_eq_true rfl⟩ ?_
          refine v_push rfl ?_
          refine v_ine rfl (fun c5 => ?_) (fun c5 => ?_)
          · refine v_load rfl rfl ⟨rfl, Nat.le_of_ble_eq_true rfl⟩ ?_
            refine v_push rfl ?_
            refine v_ine rfl (fun c6 => ?_) (fun c6 => ?_)
            · exact err z1 z2 c3 (fun z => c5 z.2) (fun z => c6 z.2) _
            · rw [if_neg z1, if_neg z2, if_neg c3, if_neg (fun z => c5 z.2), if_pos ⟨c4, c6⟩] at hp
              have hlt2 := (sgn_lt (T := T) (i := a + 1) (by omega)).2
              obtain ⟨q, g1, g2⟩ := ob_some hp
              obtain ⟨qs, qb⟩ := q
              obtain ⟨rfl, rfl⟩ : mkN 3 a (clos T 59 (clos T 41 qb).2).2 0 ([lfN 12 a 1 0, lfN 16 (a + 1) 1 40] ++ qs ++ [(clos T 41 qb).1, (clos T 59 (clos T 41 qb).2).1]) = τ ∧ (clos T 59 (clos T 41 qb).2).2 = a' := by simpa using g2
              have hqb := g_qb hT g1 (by omega)
              have hc1 := clos_ok (T := T) (sg := 41) (at_ := qb) hqb (by decide)
              have hc2 := clos_ok (T := T) (sg := 59) (at_ := (clos T 41 qb).2) ⟨by omega, hc1.2.1⟩ (by decide)
              have hlen : (mkN 3 a (clos T 59 (clos T 41 qb).2).2 0 ([lfN 12 a 1 0, lfN 16 (a + 1) 1 40] ++ qs ++ [(clos T 41 qb).1, (clos T 59 (clos T 41 qb).2).1])).length = qs.flatten.length + 5 := by rw [mkN_len]; simp only [List.flatten_append, List.flatten_cons, List.flatten_nil, List.append_nil, List.length_append, lfN_len, hc1.2.2, hc2.2.2]; omega
              rw [hlen] at hh k
              refine v_load rfl rfl ⟨rfl, Nat.le_of_ble_eq_true rfl⟩ ?_
              refine v_load rfl rfl ⟨rfl, Nat.le_of_ble_eq_true rfl⟩ ?_
              refine v_callr rfl ⟨Nat.le_of_ble_eq_true rfl, Nat.le_of_ble_eq_true rfl, rfl, Nat.le_of_ble_eq_true rfl, rfl⟩ ?_
              refine g_call hT hE hL g1 hP (by omega) (by omega) hn0 hn1 (by omega) (fun M' x I k1 k2 => ?_)
              refine v_ret rfl rfl ?_
              exact GE_fin (by omega) k1 k2 k
          · rw [if_neg z1, if_neg z2, if_neg c3, if_pos ⟨c4, c5⟩] at hp
            have hlt2 := (sgn_lt (T := T) (i := a + 1) (by omega)).2
            obtain ⟨e, g1, g2⟩ := ob_some hp
            obtain ⟨τe, q1, q2, q3, q4, -⟩ := P_ok3 hT g1 (by omega) (by omega)
            obtain ⟨ea, eb⟩ := e
            have q1 : ea = [τe] := q1
            subst q1
            obtain ⟨rfl, rfl⟩ : mkN 2 a (clos T 59 eb).2 0 ([lfN 12 a 1 0, lfN 16 (a + 1) 1 0] ++ [τe] ++ [(clos T 59 eb).1]) = τ ∧ (clos T 59 eb).2 = a' := by simpa using g2
            have q3 : a + 2 ≤ eb := q3
            have hc1 := clos_ok (T := T) (sg := 59) (at_ := eb) ⟨by omega, q4⟩ (by decide)
            have hlen : (mkN 2 a (clos T 59 eb).2 0 ([lfN 12 a 1 0, lfN 16 (a + 1) 1 0] ++ [τe] ++ [(clos T 59 eb).1])).length = τe.length + 4 := by rw [mkN_len]; simp only [List.flatten_append, List.flatten_cons, List.flatten_nil, List.append_nil, List.length_append, lfN_len, hc1.2.2]; omega
            rw [hlen] at hh k
            refine v_load rfl rfl ⟨rfl, Nat.le_of_ble_eq_true rfl⟩ ?_
            refine v_load rfl rfl ⟨rfl, Nat.le_of_ble_eq_true rfl⟩ ?_
            refine v_callr rfl ⟨Nat.le_of_ble_eq_true rfl, Nat.le_of_ble_eq_true rfl, rfl, Nat.le_of_ble_eq_true rfl, rfl⟩ ?_
            refine g_assign hT hE g1 hP (by omega) (by omega) hn0 hn1 (by omega) (fun M' x I k1 k2 => ?_)
            refine v_ret rfl rfl ?_
            exact GE_fin (by omega) k1 k2 k
      · rw [if_neg z1, if_neg z2, if_pos c3] at hp
        obtain ⟨rfl, rfl⟩ : lfN 8 a 1 0 = τ ∧ a + 1 = a' := by simpa using hp
        rw [lfN_len] at hh k
        refine v_load rfl rfl ⟨rfl, Nat.le_of_ble_eq_true rfl⟩ ?_
        refine v_push rfl ?_
        refine v_push rfl ?_
        refine v_push rfl ?_
        refine v_callr rfl ⟨Nat.le_of_ble_eq_true rfl, Nat.le_of_ble_eq_true rfl, rfl, Nat.le_of_ble_eq_true rfl, rfl⟩ ?_
        refine S_leaf hP (by omega) (Or.inr rfl) (by omega) (fun M' x I k1 k2 => ?_)
        refine v_ret rfl rfl ?_
        exact k M' x I k1 k2
    have blk : ¬ ((sgn T a = 1 ∨ sgn T a = 3) ∧ ne < 10) → v_wp L (d + 2) 39 62 [(2, 52), (0, ne), (0, o), (0, sgn T a), w] [] M Q := by
      intro z1
      refine v_load rfl rfl ⟨rfl, Nat.le_of_ble_eq_true rfl⟩ ?_
      refine v_push rfl ?_
      refine v_ine rfl (fun c1 => ?_) (fun c1 => ?_)
      · exact plain z1 (fun z => c1 z.1)
      · refine v_load rfl rfl ⟨rfl, Nat.le_of_ble_eq_true rfl⟩ ?_
        refine v_ifeq rfl (fun c2 => ?_) (fun c2 => ?_)
        · exact plain z1 (fun z => ho2 c2 z.2)
        · have y := ho1 c2
          rw [if_neg z1, if_pos ⟨c1, y⟩] at hp
          obtain ⟨q, g1, g2⟩ := ob_some hp
          obtain ⟨ts, ib⟩ := q
          obtain ⟨rfl, rfl⟩ : mkN 5 a (clos T 125 ib).2 0 ([lfN 16 a 1 123] ++ bal ts ++ [(clos T 125 ib).1]) = τ ∧ (clos T 125 ib).2 = a' := by simpa using g2
          obtain ⟨o1, o2, -⟩ := P_ok0 hT g1 (by omega) (by omega)
          have o1 : a + 1 ≤ ib := o1
          have hc1 := clos_ok (T := T) (sg := 125) (at_ := ib) ⟨by omega, o2⟩ (by decide)
          have hlen : (mkN 5 a (clos T 125 ib).2 0 ([lfN 16 a 1 123] ++ bal ts ++ [(clos T 125 ib).1])).length = (bal ts).flatten.length + 3 := by rw [mkN_len]; simp only [List.flatten_append, List.flatten_cons, List.flatten_nil, List.append_nil, List.length_append, lfN_len, hc1.2.2]; omega
          rw [hlen] at hh k
          refine v_load rfl rfl ⟨rfl, Nat.le_of_ble_eq_true rfl⟩ ?_
          refine v_load rfl rfl ⟨rfl, Nat.le_of_ble_eq_true rfl⟩ ?_
          refine v_push rfl ?_
          refine v_add rfl (by omega) ?_
          refine v_callr rfl ⟨Nat.le_of_ble_eq_true rfl, Nat.le_of_ble_eq_true rfl, rfl, Nat.le_of_ble_eq_true rfl, rfl⟩ ?_
          refine g_block hT hI g1 hP (by omega) (by omega) (by omega) (by omega) (by omega) (fun M' x I k1 k2 => ?_)
          refine v_ret rfl rfl ?_
          exact GE_fin (by omega) k1 k2 k
    have whl : ¬ (sgn T a = 1 ∧ ne < 10) → v_wp L (d + 2) 39 43 [(2, 52), (0, ne), (0, o), (0, sgn T a), w] [] M Q := by
      intro z1
      refine v_load rfl rfl ⟨rfl, Nat.le_of_ble_eq_true rfl⟩ ?_
      refine v_push rfl ?_
      refine v_ine rfl (fun c1 => ?_) (fun c1 => ?_)
      · exact blk (fun z => z.1.elim (fun y => z1 ⟨y, z.2⟩) c1)
      · refine v_load rfl rfl ⟨rfl, Nat.le_of_ble_eq_true rfl⟩ ?_
        refine v_ifeq rfl (fun c2 => ?_) (fun c2 => ?_)
        · exact blk (fun z => ho2 c2 z.2)
        · rw [if_pos ⟨Or.inr c1, ho1 c2⟩] at hp
          have y := ho1 c2
          refine v_load rfl rfl ⟨rfl, Nat.le_of_ble_eq_true rfl⟩ ?_
          refine v_push rfl ?_
          refine v_load rfl rfl ⟨rfl, Nat.le_of_ble_eq_true rfl⟩ ?_
          refine v_push rfl ?_
          refine v_add rfl (by omega) ?_
          refine v_callr rfl ⟨Nat.le_of_ble_eq_true rfl, Nat.le_of_ble_eq_true rfl, rfl, Nat.le_of_ble_eq_true rfl, rfl⟩ ?_
          refine g_branch (τs := []) hT hE hB (so := 7) (by rw [if_neg (by omega)]) hp hP (by omega) hh (by omega) (by omega) (by omega) (fun M' x I k1 k2 => ?_)
          refine v_ret rfl rfl ?_
          exact k M' x I k1 k2
    refine v_load rfl rfl ⟨rfl, Nat.le_of_ble_eq_true rfl⟩ ?_
    refine v_push rfl ?_
    refine v_ine rfl (fun c1 => ?_) (fun c1 => ?_)
    · exact whl (fun z => c1 z.1)
    · refine v_load rfl rfl ⟨rfl, Nat.le_of_ble_eq_true rfl⟩ ?_
      refine v_ifeq rfl (fun c2 => ?_) (fun c2 => ?_)
      · exact whl (fun z => ho2 c2 z.2)
      · rw [if_pos ⟨Or.inl c1, ho1 c2⟩] at hp
        have y := ho1 c2
        refine v_load rfl rfl ⟨rfl, Nat.le_of_ble_eq_true rfl⟩ ?_
        refine v_push rfl ?_
        refine v_load rfl rfl ⟨rfl, Nat.le_of_ble_eq_true rfl⟩ ?_
        refine v_push rfl ?_
        refine v_add rfl (by omega) ?_
        refine v_callr rfl ⟨Nat.le_of_ble_eq_true rfl, Nat.le_of_ble_eq_true rfl, rfl, Nat.le_of_ble_eq_true rfl, rfl⟩ ?_
        refine g_branch (τs := []) hT hE hB (so := 6) (by rw [if_pos c1]) hp hP (by omega) hh (by omega) (by omega) (by omega) (fun M' x I k1 k2 => ?_)
        refine v_ret rfl rfl ?_
        exact k M' x I k1 k2
  refine v_in ?_
  refine v_load rfl rfl ⟨rfl, Nat.le_of_ble_eq_true rfl⟩ ?_
  refine v_push rfl ?_
  refine v_ige rfl (fun c1 => ?_) (fun c1 => ?_)
  · refine v_push rfl ?_
    refine v_store rfl ⟨rfl, Nat.le_of_ble_eq_true rfl, Nat.le_of_ble_eq_true rfl, rfl⟩ rfl ?_
    refine v_load rfl rfl ⟨rfl, Nat.le_of_ble_eq_true rfl⟩ ?_
    refine v_getp rfl rfl rfl ?_
    refine v_load rfl rfl ⟨rfl, Nat.le_of_ble_eq_true rfl⟩ ?_
    refine v_getx rfl rfl p2 ?_
    refine v_callr rfl ⟨Nat.le_of_ble_eq_true rfl, Nat.le_of_ble_eq_true rfl, rfl, Nat.le_of_ble_eq_true rfl, rfl⟩ ?_
    refine S_sgn hP ?_
    refine v_store rfl ⟨rfl, Nat.le_of_ble_eq_true rfl, Nat.le_of_ble_eq_true rfl, rfl⟩ rfl ?_
    exact main 0 (by rw [if_neg (by omega)]) _
  · refine v_push rfl ?_
    refine v_goto rfl ?_
    refine v_store rfl ⟨rfl, Nat.le_of_ble_eq_true rfl, Nat.le_of_ble_eq_true rfl, rfl⟩ rfl ?_
    refine v_load rfl rfl ⟨rfl, Nat.le_of_ble_eq_true rfl⟩ ?_
    refine v_getp rfl rfl rfl ?_
    refine v_load rfl rfl ⟨rfl, Nat.le_of_ble_eq_true rfl⟩ ?_
    refine v_getx rfl rfl p2 ?_
    refine v_callr rfl ⟨Nat.le_of_ble_eq_true rfl, Nat.le_of_ble_eq_true rfl, rfl, Nat.le_of_ble_eq_true rfl, rfl⟩ ?_
    refine S_sgn hP ?_
    refine v_store rfl ⟨rfl, Nat.le_of_ble_eq_true rfl, Nat.le_of_ble_eq_true rfl, rfl⟩ rfl ?_
    exact main 1 (by rw [if_pos c1]) _
/-- all modes at once -/
theorem g_every (hT : tkOK T) (L : Nat) : ∀ f, GE L T f 3 45 6 ∧ GE L T f 4 46 5 ∧ GE L T f 5 47 4 ∧ GL L T f 6 45 6 ∧ GL L T f 7 46 5 ∧ GLs L T f ∧ GE L T f 1 39 8 ∧ GE L T f 2 41 9 ∧ GIl L T f
  | 0 => ⟨fun _ _ _ _ _ _ _ _ h => by simp [P] at h, fun _ _ _ _ _ _ _ _ h => by simp [P] at h, fun _ _ _ _ _ _ _ _ h => by simp [P] at h, fun _ _ _ _ _ _ _ _ _ _ _ _ _ _ _ h => by simp [P] at h, fun _ _ _ _ _ _ _ _ _ _ _ _ _ _ _ h => by simp [P] at h, fun _ _ _ _ _ _ _ _ _ _ _ _ _ _ _ h => by simp [P] at h, fun _ _ _ _ _ _ _ _ h => by simp [P] at h, fun _ _ _ _ _ _ _ _ h => by simp [P] at h, fun _ _ _ _ _ _ _ _ _ _ _ _ _ _ _ h => by simp [P] at h⟩
  | f + 1 => by
    obtain ⟨i1, i2, i3, i4, i5, i6, i7, i8, i9⟩ := g_every hT L f
    exact ⟨g_mode3 hT i2 i4, g_mode4 hT i3 i5, g_part hT i1, g_loop6 hT i2 i4, g_loop7 hT i3 i5, g_list hT i1 i6, g_item hT i1 i8 (g_all hT i9) i6, g_body hT i7, g_items hT i7 i9⟩
end IM
