def R_law : String := "KeptTreeLaw"
def lw_P (b : Addr) (xs : List Int32) (args : Array Value) (s : State) : Prop := args = #[.ref b] ∧ s.IntsAt b xs ∧ xs.length ≤ 3072 ∧ (Jvm.Cond.and given_1 narrow_1).before args s = true
def lw_Q (_ : Array Value) (s : State) (o : Outcome) (t : State) : Prop := o = .returned (some (.int 1)) ∧ Framed s o t [] 600000 7302250
def lw_Z (below : List Frame) (a : Array Value) (s : State) : State → Prop := fun t => ∃ o, t.status = .running ∧ Ended t below o ∧ lw_Q a s o t
/-- the law's own end, with 1 on the stack, nothing written that was there before, its room as the claim has it -/
theorem lw_ret {p : Program} {l : Launch} {e : Env} {s : State} {m : MethodId} {below : List Frame} {meth : Method} {c : Code} {b : Nat} (hx : p.tables.exec = Jvm.exec) (hb : c.code = code) (hr : meth.sig.returnType = ret) (hlocks : meth.locks = false) {pc : Nat} {H : Heap} {ls : Array Slot} (hdg : decode code pc = .ok (.ireturn, 1)) : W p l e room_1 s m #[Value.ref b] below meth c H [] 600000 7302250 (lw_Z below #[Value.ref b] s) (F0 m pc ls [.int 1]) := by
  intro T hT X
  obtain ⟨fs, hret, hrun, hended, hW, hframe⟩ := X.leave (v := some (.int 1)) (hlocks := hlocks) (fun h => by rw [hr] at h; cases h)
  have hmeth' : T.vm.method? m = some meth := X.method'
  refine ⟨T.setFrames fs, ?_, .returned (some (.int 1)), hrun, hended, rfl, ⟨_, rfl⟩, hW, hframe⟩
  jvm_step X.here [X.here.top, hx, hb, hdg, hmeth', hr, ret, narrow_b1]
  (try refine ⟨rfl, ?_⟩); (try refine ⟨rfl, ?_⟩)
  first | (intro acts; rw [hret _ acts rfl rfl rfl]) | rw [hret _ _ rfl rfl rfl]
  exact Steps.refl _
/-- what holds at the law's entry: the machine, the code, the tables' words (any of lw_tbl by 'hts w (by decide +kernel)'), the script of L ints xs at the cell b, what the Statement gives of the start (any of its parts by flat_of_before) -/
def lw_At (p : Program) (s : State) (m : MethodId) (meth : Method) (c : Code) (b L : Nat) (xs : Nat → Int32) : Prop :=
  p.tables.exec = Jvm.exec ∧ c.code = code ∧ meth.sig.returnType = ret ∧ c.maxLocals = 4 ∧ s.vm.findClass R_law = some m.cls ∧ (∀ w ∈ lw_tbl, w.before #[Value.ref b] s = true) ∧ va_X b L xs s s.heap ∧ b < s.heap.size ∧ meth.locks = false ∧ (Jvm.Cond.and given_1 narrow_1).before #[Value.ref b] s = true
theorem z_lw {i : Nat} {w : Cond} (h : (z_ch.getD (i / 1000) [])[i % 1000]? = some w) : w ∈ lw_tbl := by
  have h1 := List.mem_of_getElem? h
  by_cases hc : i / 1000 < z_ch.length
  · rw [List.getD_eq_getElem?_getD, List.getElem?_eq_getElem hc, Option.getD_some] at h1
    exact z_ch_in _ (List.getElem_mem hc) h1
  · rw [List.getD_eq_getElem?_getD, List.getElem?_eq_none (by omega)] at h1
    cases h1
/-- the law over the small machine, from its entry -/
theorem law_wp {L : Nat} {X : Int → Int} (hL : L ≤ 3072) (h32 : ∀ x, z_i32 (X x)) : z_wp 103 311 0 (z_ent 4 [(2, -1)]) [] (0, 0, z_bs L, z_bm X) (fun rv σ' => rv = some (0, 1) ∧ σ'.1 = 127 ∧ σ'.2.1 = 86289) := by
  show z_wp 103 311 0 [(2, -1), (9, 0), (9, 0), (9, 0)] [] (0, 0, z_bs L, z_bm X) _
  refine x_st (ll' := [(2, -1), (9, 0), (9, 0), (9, 0)]) (st' := [(2, 1)]) (σ' := zt_new (0, 0, z_bs L, z_bm X) 7 11) lk_0 rfl ?_
  refine x_dup lk_3 (Or.inr rfl) ?_
  refine x_call (d := 102) lk_4 ⟨Nat.le_of_ble_eq_true rfl, Nat.le_of_ble_eq_true rfl, rfl, Nat.le_of_ble_eq_true rfl, rfl⟩ ?_
  refine z_call_d (d := 60) (by decide) ?_
  refine z_c119 (fun σ1 e1 k2 => ?_)
  obtain ⟨n1, w1, sh1, M1⟩ := σ1
  have e1 : n1 = 76 := e1
  subst e1
  refine x_store lk_7 ⟨rfl, Nat.le_of_ble_eq_true rfl, Nat.le_of_ble_eq_true rfl, rfl⟩ rfl ?_
  refine x_st (ll' := [(2, -1), (2, 1), (9, 0), (9, 0)]) (st' := [(2, 77)]) (σ' := zt_new (76, w1, sh1, M1) 8 70) lk_8 rfl ?_
  refine x_dup lk_11 (Or.inr rfl) ?_
  refine x_call (d := 102) lk_12 ⟨Nat.le_of_ble_eq_true rfl, Nat.le_of_ble_eq_true rfl, rfl, Nat.le_of_ble_eq_true rfl, rfl⟩ ?_
  refine z_call_d (d := 60) (by decide) ?_
  refine k2 _ (fun M hF hH hX => ?_)
  refine x_store lk_15 ⟨rfl, Nat.le_of_ble_eq_true rfl, Nat.le_of_ble_eq_true rfl, rfl⟩ rfl ?_
  refine x_push lk_16 ?_
  refine x_store lk_17 ⟨rfl, Nat.le_of_ble_eq_true rfl, Nat.le_of_ble_eq_true rfl, rfl⟩ rfl ?_
  have go := law_loop (L := L) (X := X) (Q := fun rv _ => rv = some (0, 1)) hL h32 (fun _ => rfl) (L + 1) 0 s_0 M (by omega) (by omega) (CS_0 hH) (RS_0 hH) BS_0 hX hF
  refine z_wp_mono go (fun rv σ' h => ?_)
  obtain ⟨M', e, -, h⟩ := h
  rw [e]
  exact ⟨h, rfl, rfl⟩
theorem whole_start {p : Program} {e : Env} {s : State} {m : MethodId} {below : List Frame} {meth : Method} {c : Code} (l : Launch) (hflags : l.flags = flags0) {b L : Nat} {xs : Nat → Int32} (hL : L ≤ 3072) (C0 : lw_At p s m meth c b L xs) : W p l e room_1 s m #[Value.ref b] below meth c s.heap [] 0 0 (lw_Z below #[Value.ref b] s) (entryFrame m ([Value.ref b] : List Value).toArray 4) := by
  obtain ⟨hx, hb, hr, hml, hown, hts, hX, hbl, hlocks, hgv⟩ := id C0
  have hT : ∀ w ∈ z_T, w.before #[Value.ref b] s = true := fun w hw => hts w (List.mem_filter.mp hw).1
  have hs := flat_of_before _ hgv
  have hAA : ∀ a : Nat, a < s.heap.size → ¬ (fun q : Nat => s.heap.size ≤ q) a := fun a ha z => absurd (show s.heap.size ≤ a from z) (Nat.not_le.mpr ha)
  -- the classes
  have hKn : ∀ ci : Nat, ∃ q : ClassId × (Nat → Nat), ci < 9 → u_Kn s (z_cl (ci : Int)).1 (z_cl (ci : Int)).2.1 (z_cl (ci : Int)).2.2 q.1 q.2 := by
    intro ci
    by_cases h9 : ci < 9
    · have hz := z_cls (ci := (ci : Int)) (by omega) (by omega)
      have hi : ∃ n, (Cond.instantiable (z_cl (ci : Int)).1 n).before #[Value.ref b] s = true := by
        have : ci = 0 ∨ ci = 1 ∨ ci = 2 ∨ ci = 3 ∨ ci = 4 ∨ ci = 5 ∨ ci = 6 ∨ ci = 7 ∨ ci = 8 := by omega
        rcases this with rfl | rfl | rfl | rfl | rfl | rfl | rfl | rfl | rfl
        · exact ⟨3, hT _ (z_wd_in (i := 1024) (by decide +kernel))⟩
        · exact ⟨3, hT _ (z_wd_in (i := 1041) (by decide +kernel))⟩
        · exact ⟨18, hT _ (z_wd_in (i := 1177) (by decide +kernel))⟩
        · exact ⟨13, hT _ (z_wd_in (i := 1131) (by decide +kernel))⟩
        · exact ⟨7, hT _ (z_wd_in (i := 1060) (by decide +kernel))⟩
        · exact ⟨12, hT _ (z_wd_in (i := 1088) (by decide +kernel))⟩
        · exact ⟨3, hT _ (z_wd_in (i := 1239) (by decide +kernel))⟩
        · exact ⟨11, hT _ (z_wd_in (i := 1016) (by decide +kernel))⟩
        · exact ⟨70, hT _ (z_wd_in (i := 5097) (by decide +kernel))⟩
      obtain ⟨n, hi⟩ := hi
      obtain ⟨cC, iS, h⟩ := u_known (n := n) hT hz.2.1 hi
      exact ⟨(cC, iS), fun _ => h⟩
    · exact ⟨(m.cls, fun _ => 0), fun h => absurd h h9⟩
  obtain ⟨dq, hdq⟩ := Classical.axiomOfChoice hKn
  -- the arrays
  obtain ⟨cI, kI, pI, i1, i2, i3⟩ := Cond.arrayClass_spec (type := .int) (hT _ (z_wd_in (i := 1039) (w := .arrayClass .int) (by decide +kernel)))
  obtain ⟨cJ, kJ, pJ, j1, j2, j3⟩ := Cond.arrayClass_spec (type := .long) (hT _ (z_wd_in (i := 2014) (w := .arrayClass .long) (by decide +kernel)))
  obtain ⟨cZ, kZ, pZ, z1, z2, z3⟩ := Cond.arrayClass_spec (type := .boolean) (hT _ (z_wd_in (i := 1237) (w := .arrayClass .boolean) (by decide +kernel)))
  have hov : (Cond.arrayOver (.object RX0)).before #[Value.ref b] s = true := hts _ (z_lw (i := 1047) (by decide +kernel))
  obtain ⟨pB, cB, kB, b1, -, b2, b3, b4⟩ := Cond.arrayOver_spec hov
  let ca : Nat → ClassId := fun i => if i = 0 then cI else if i = 1 then cJ else if i = 2 then cZ else cB
  have hK : va_K (fun k => (dq k).1, fun k => (dq k).2) vwCl (z_tys ca) s := by
    refine ⟨fun k q hq => ?_, fun k q hq => ?_⟩
    · have hk : k < 9 := by
        have := (List.getElem?_eq_some_iff.mp hq).1
        exact this
      have := (z_cls (ci := (k : Int)) (by omega) (by omega)).1
      rw [Int.toNat_natCast, hq] at this
      cases this
      exact hdq k hk
    · have hk : k < 4 := (List.getElem?_eq_some_iff.mp hq).1
      have : k = 0 ∨ k = 1 ∨ k = 2 ∨ k = 3 := by omega
      rcases this with rfl | rfl | rfl | rfl
      · cases hq; exact ⟨fun n z => ⟨fun k h => (by cases h), kI, i2, pI, i3⟩, i1⟩
      · cases hq; exact ⟨fun n z => ⟨fun k h => (by cases h), kJ, j2, pJ, j3⟩, j1⟩
      · cases hq; exact ⟨fun n z => ⟨fun k h => (by cases h), kZ, z2, pZ, z3⟩, z1⟩
      · cases hq; exact ⟨fun n z => ⟨fun k h => (by cases h), kB, b2, pB, b3⟩, kB, pB, b2, b3, b1, b4⟩
  -- the words
  obtain ⟨adK, adV, hvk, hev⟩ := vk_Sof (args := #[Value.ref b]) (s := s) (N := 3) (tm := fun i => Term.string "KeptTree$Tokens" ([85, 91, 93].getD i 0)) (len := [2, 4, 5]) (byt := z_byt) (A := fun q => s.heap.size ≤ q)
    (fun i hi => by
      have : i = 0 ∨ i = 1 ∨ i = 2 := by omega
      rcases this with rfl | rfl | rfl <;> decide)
    (fun i hi => by
      have : i = 0 ∨ i = 1 ∨ i = 2 := by omega
      rcases this with rfl | rfl | rfl <;> exact hs _ (by decide +kernel))
    (fun i hi => by
      have : i = 0 ∨ i = 1 ∨ i = 2 := by omega
      rcases this with rfl | rfl | rfl <;> exact hs _ (by decide +kernel))
    (fun i hi => by
      have : i = 0 ∨ i = 1 ∨ i = 2 := by omega
      rcases this with rfl | rfl | rfl <;> exact hs _ (by decide +kernel))
    (fun i hi => by
      have : i = 0 ∨ i = 1 ∨ i = 2 := by omega
      rcases this with rfl | rfl | rfl <;> exact hs _ (by decide +kernel))
    (fun i hi j hj => by
      have : i = 0 ∨ i = 1 ∨ i = 2 := by omega
      rcases this with rfl | rfl | rfl
      · have hj : j < 2 := hj
        have : j = 0 ∨ j = 1 := by omega
        rcases this with rfl | rfl <;> exact hs _ (by decide +kernel)
      · have hj : j < 4 := hj
        have : j = 0 ∨ j = 1 ∨ j = 2 ∨ j = 3 := by omega
        rcases this with rfl | rfl | rfl | rfl <;> exact hs _ (by decide +kernel)
      · have hj : j < 5 := hj
        have : j = 0 ∨ j = 1 ∨ j = 2 ∨ j = 3 ∨ j = 4 := by omega
        rcases this with rfl | rfl | rfl | rfl | rfl <;> exact hs _ (by decide +kernel))
    (fun i j hi hj hij => by
      have h1 : i = 0 ∨ i = 1 ∨ i = 2 := by omega
      have h2 : j = 0 ∨ j = 1 ∨ j = 2 := by omega
      rcases h1 with rfl | rfl | rfl <;> rcases h2 with rfl | rfl | rfl <;> first | exact absurd rfl hij | exact Or.inl (hs _ (by decide +kernel)) | exact Or.inr (hs _ (by decide +kernel)))
    hAA
  let ad : Int → Option Nat := fun a => if 0 < a then some (s.heap.size + (a - 1).toNat) else if a = -1 then some b else if a = -2 then some (adK 0) else if a = -3 then some (adK 1) else if a = -4 then some (adK 2) else none
  have had : ∀ i : Nat, i < 3 → ad (-2 - (i : Int)) = some (adK i) := by
    intro i hi
    have : i = 0 ∨ i = 1 ∨ i = 2 := by omega
    rcases this with rfl | rfl | rfl <;> rfl
  have hA : z_A ad s.heap.size := by
    refine ⟨rfl, fun k => ?_⟩
    show (if 0 < (k : Int) + 1 then some (s.heap.size + ((k : Int) + 1 - 1).toNat) else _) = _
    rw [if_pos (by omega), show ((k : Int) + 1 - 1).toNat = k by omega]
  have hU : z_U (fun k => (dq k).1, fun k => (dq k).2) ca ad s := by
    refine ⟨hK, va_AO.of hov, fun i hi => ⟨adK i, had i hi, ?_⟩⟩
    have hei := hev i hi
    have : i = 0 ∨ i = 1 ∨ i = 2 := by omega
    rcases this with rfl | rfl | rfl
    · exact vk_R.of (hts (.stringRef RX4 85 "if") (z_lw (i := 3091) (by decide +kernel))) hei
    · exact vk_R.of (hts (.stringRef RX4 91 "else") (z_lw (i := 3143) (by decide +kernel))) hei
    · exact vk_R.of (hts (.stringRef RX4 93 "while") (z_lw (i := 3144) (by decide +kernel))) hei
  have C : z_C p s m #[Value.ref b] c code 4 "KeptTreeLaw" (fun k => (dq k).1, fun k => (dq k).2) ca ad s.heap.size 0 := ⟨hx, hb, hml, hown, hT, hU, hA, rfl⟩
  let X : Int → Int := fun i => (xs i.toNat).toInt
  have h32 : ∀ x, z_i32 (X x) := fun x => ⟨Int32.le_toInt _, Int32.toInt_lt _⟩
  have hH : z_H (fun k => (dq k).1, fun k => (dq k).2) ca ad s.heap.size (0, 0, z_bs L, z_bm X) s s.heap := by
    refine ⟨fun k q hq => by simp [z_ws] at hq, ⟨fun a ha => ?_, fun a ha => ?_, fun a => ?_, rfl, fun a i ha => ?_⟩, ⟨b, rfl, hbl, ?_⟩, adK, adV, had, hvk, ?_, ?_⟩
    · by_cases h1 : a = -1
      · exact Or.inl h1
      · exfalso
        have ha : (z_bs L a).1 < 13 := ha
        unfold z_bs at ha
        rw [if_neg h1] at ha
        exact absurd ha (by decide)
    · exfalso
      have ha : (z_bs L a).1 < 9 := ha
      unfold z_bs at ha
      split at ha
      · exact absurd ha (by show ¬ (9 : Nat) < 9; decide)
      · exact absurd ha (by decide)
    · show (z_bs L a).2 < 2147483648
      unfold z_bs
      split
      · show L < 2147483648; omega
      · decide
    · by_cases h1 : a = -1
      · subst h1
        exact ⟨fun _ => h32 _, fun h => (by cases h)⟩
      · exfalso
        have ha : (z_bs L a).1 < 13 := ha
        unfold z_bs at ha
        rw [if_neg h1] at ha
        exact absurd ha (by decide)
    · obtain ⟨scr, q1, q2, q3, q4, q5⟩ := hX
      refine ⟨scr, q1, q2, q3, q4, fun j hj => ?_⟩
      rw [q5 j hj]
      show some (Value.int (xs j)) = some (Value.int (Int32.ofInt (xs ((j : Int).toNat)).toInt))
      rw [Int.toNat_natCast, Int32.ofInt_toInt]
    · exact va_Zof (hts _ (z_lw (i := 3104) (by decide +kernel))) (hT _ (z_wd_in (i := 1011) (by decide +kernel))) (va_eqt (hs (Cond.eq (.static "java/lang/String" "COMPACT_STRINGS" "Z") (.int 1)) (by decide +kernel))) hAA
    · exact va_Zqof (hts _ (z_lw (i := 3120) (by decide +kernel))) (hT _ (z_wd_in (i := 1013) (by decide +kernel))) (hs (Cond.isRef (.static "jdk/internal/util/Preconditions" "SIOOBE_FORMATTER" "Ljava/util/function/BiFunction;")) (by decide +kernel)) hAA
  obtain ⟨f, rv, σ', hf, hrv, hn, hw⟩ := law_wp (L := L) (X := X) hL h32
  have G := z_run z_all f 103 311 0 _ _ _ rv σ' hf p l e room_1 s m #[Value.ref b] below meth c (lw_Z below #[Value.ref b] s) (fun k => (dq k).1, fun k => (dq k).2) ca ad s.heap.size 0 0 "KeptTreeLaw" code false (some .boolean) z_op311 C (Nat.le_of_ble_eq_true rfl) (Nat.le_of_ble_eq_true rfl) ⟨by rw [hn]; exact Nat.le_of_ble_eq_true rfl, by rw [hw]; exact Nat.le_of_ble_eq_true rfl⟩ (fun h => by cases h) ?_
  · rw [lg_entry_eq]
    exact G s.heap [] _ hH va_S.rf (z_entry (vs := [(2, -1)]) (by decide) (fun v hv => by rw [List.mem_singleton.mp hv]; exact z_okR) (by decide)) (fun v hv => by cases hv) (Nat.le_refl _) (Nat.le_refl _)
  · intro pc' ll' st' h26 hret H locs ls hH' hS' hL' hst h1 h2
    have hop := z_op311 pc'
    generalize z_cd 311 pc' = o at h26 hret hop
    obtain ⟨oc, n', t, g, g2, q⟩ := o
    cases h26
    have hg : z_good "KeptTreeLaw" false (some .boolean) code pc' (26, n', t, g, g2, q) = true := hop
    obtain ⟨hd, -⟩ := z_good_inv hg
    rw [hrv] at hret
    have hst' : st' = [(0, 1)] ∧ (t = 0 ∨ t = 3) := by
      have hret : z_ret t st' = some (some (0, 1)) := hret
      match st', hret with
      | [], hret =>
        have hret : (if t = 4 then some none else none) = some (some ((0, 1) : zV)) := hret
        by_cases c4 : t = 4
        · rw [if_pos c4] at hret; cases hret
        · rw [if_neg c4] at hret; cases hret
      | [v], hret =>
        unfold z_ret at hret
        simp only at hret
        split at hret
        · rename_i hc
          cases hret
          refine ⟨rfl, ?_⟩
          have h3 := hc.2.2.1
          have : t = 0 ∨ t = 1 ∨ t = 2 ∨ t = 3 := by omega
          rcases this with rfl | rfl | rfl | rfl
          · exact Or.inl rfl
          · exact absurd h3 (by decide)
          · exact absurd h3 (by decide)
          · exact Or.inr rfl
        · cases hret
      | v :: w :: r, hret => unfold z_ret at hret; cases hret
    have hdg : decode code pc' = .ok (.ireturn, 1) := by
      rcases hst'.2 with rfl | rfl <;> exact hd
    rw [hst'.1, hn, hw]
    refine va_forget (fun q hq => hS'.2.2 q hq) ?_
    refine W.widen (k := 600000) (n := 7302250) (Nat.le_of_ble_eq_true rfl) (Nat.le_of_ble_eq_true rfl) ?_
    exact lw_ret hx hb hr hlocks hdg
set_option maxHeartbeats 4000000 in
theorem lw_walk (l : Launch) (hflags : l.flags = flags0) (b : Addr) (xs : List Int32) : MetFree l x (headSpec (Jvm.Cond.code x code maxLocals ret :: tables_1) room_1) (lw_P b xs) (fun _ _ _ _ _ => True) lw_Q := by
  refine MetFree.of_bodyS (code := code) (maxLocals := maxLocals) (ret := ret) (by decide) ?_ ?_
  · intro args s m h hn
    obtain ⟨meth, c, h1, h2, h3, h4, h5, h6, -, -⟩ := Cond.code_spec hn (atoms_spec (ws := Jvm.Cond.code x code maxLocals ret :: tables_1) h _ List.mem_cons_self)
    exact ⟨meth, c, h1, h2, h3, h4, h5, h6⟩
  · intro p e s m args below meth c s₁ B hml0 hP _
    obtain ⟨rfl, hx, hbd, hgv⟩ := hP
    obtain ⟨scr, harrAt, hlist, hof, hsmall⟩ := hx
    obtain ⟨hcb, hkn, -, -⟩ := State.arrayAt?_spec harrAt
    have hown : s.vm.findClass R_law = some m.cls := findClass_of_methodNamed B.named
    have hts0 : ∀ c ∈ (Jvm.Cond.code x code maxLocals ret :: tables_1), c.before #[Value.ref b] s = true := atoms_spec (ws := Jvm.Cond.code x code maxLocals ret :: tables_1) B.pre
    have hts : ∀ w ∈ lw_tbl, w.before #[Value.ref b] s = true := k2_hts_sels lw_privs (fun w hw => hts0 w (List.mem_cons_of_mem _ hw)) lw_privs_ok
    have hml : c.maxLocals = 4 := B.maxLocals_eq (hts0 _ List.mem_cons_self)
    have X₀ : Stand p l e room_1 s m #[Value.ref b] below meth c s₁ [] 0 0 := Stand.of_body B
    have hh0 : s₁.heap = s.heap := by rw [B.state]; rfl
    have hsz : scr.slots.size = xs.length := by rw [← Array.length_toList, hlist, List.length_map]
    have hval : ∀ j : Nat, j < xs.length → scr.slots[j]? = some (.int (xs.getD j 0)) := fun j hj => by
      rw [← Array.getElem?_toList, hlist]
      simp [hj]
    have hbl : b < s.heap.size := (Array.getElem?_eq_some_iff.mp hcb).1
    have hX : va_X b xs.length (fun j => xs.getD j 0) s s.heap := ⟨scr, hcb, hof, hkn, hsz, hval⟩
    have K : W p l e room_1 s m #[Value.ref b] below meth c s₁.heap [] 0 0 (lw_Z below #[Value.ref b] s) (entryFrame m ([Value.ref b] : List Value).toArray 4) := by
      rw [hh0]
      exact whole_start l hflags hbd ⟨B.exec, B.bytes, B.returns, hml, hown, hts, hX, hbl, B.notSynchronized, hgv⟩
    obtain ⟨t, a1, o, b1, b2, b3⟩ := K s₁ rfl X₀
    exact ⟨t, o, a1, b1, b2, b3⟩
theorem lw_pre_spec {args : Array Value} {s : State} (h : (Jvm.Cond.and given_1 narrow_1).before args s = true) (hr : rest_1_c.before args s = true) : ∃ (b : Addr) (xs : List Int32), lw_P b xs args s := by
  have hs := flat_of_before _ h
  have hq := flat_of_before _ hr
  have hc : (Cond.count 1).before args s = true := hs _ (by decide +kernel)
  have harr : (Cond.arrayOf (.arg 0) .int).before args s = true := hs _ (by decide +kernel)
  have hle : (Cond.le (.length (.arg 0)) (.int 3072)).before args s = true := hs _ (by decide +kernel)
  have hlen : (Cond.isInt (.length (.arg 0))).before args s = true := hq _ (by decide +kernel)
  have hall : (Cond.all (.arg 0) (.isInt (.elem (.arg 0) (.index 0)))).before args s = true := hq _ (by decide +kernel)
  obtain ⟨b, xs, hb, hx⟩ := State.ints_of_pre rfl harr hlen hall
  have hsm : xs.length < 2 ^ 31 := hx.choose_spec.2.2.2
  have hev : (Term.length (.arg 0)).eval args s none [] s = some (.int xs.length.toInt32) := hx.length_eval hb
  have hv := Cond.le_ints hev (show (Term.int 3072).eval args s none [] s = some (.int 3072) from rfl)
  have hd : xs.length.toInt32 ≤ 3072 := by
    simpa [Cond.before, Cond.holds, hv] using hle
  have hN : xs.length ≤ 3072 := (Int32.ofNat_le_ofNat hsm (by decide)).mp (show Int32.ofNat xs.length ≤ Int32.ofNat 3072 from hd)
  exact ⟨b, xs, Cond.one_arg hc (show args[0]? = some (.ref b) from hb), hx, hN, h⟩
theorem lw_comes (l : Launch) (hflags : l.flags = flags0) : Comes l x (Jvm.Cond.code x code maxLocals ret :: tables_1) room_1 (fun tb e args s => Calls_1 tb e args s ∧ rest_1 tb e args s ∧ Pre_1 tb e args s)
    (fun _ _ args s o t => lw_Q args s o t) := by
  intro p e ha hc hk s m args below hf hfit hheap happ hpre
  obtain ⟨b, xs, hP⟩ := lw_pre_spec hpre.2.2 hpre.2.1
  obtain ⟨k, o, h1, h2, h3, hQ⟩ := lw_walk l hflags b xs p e ha hc hk s m args below hf ((Spec.applies_iff_loose hf).mp happ).1 hP trivial
  exact ⟨k, o, h1, h2, h3, hQ⟩
theorem lw_frame {s t : State} {o : Outcome} {args : Array Value} (h : Framed s o t [] 600000 7302250) :
    Framed s o t (fieldLocs frame_1_writes args s ++ arrayLocs frame_1_arrays args s ++ staticLocs frame_1_statics s) 600000 7302250 := h
theorem lw_limb (L : Cond) (hL : ∀ (args : Array Value) (s t : State), L.after args s (.returned (some (.int 1))) t = true) :
    ArmFor flags0 classFile x code maxLocals ret World_1 tables_1 room_1 Calls_1 rest_1 Pre_1
      (fun tb e a s o t => postC L tb e a s o t ∧ Framed s o t (fieldLocs frame_1_writes a s ++ arrayLocs frame_1_arrays a s ++ staticLocs frame_1_statics s) 600000 7302250) := by
  intro l hflags _ _ p e ha hc hk s m args below hf hfit hheap happ hpre
  obtain ⟨k, o, h1, h2, h3, rfl, hF⟩ := lw_comes l hflags p e ha hc hk s m args below hf hfit hheap happ hpre
  exact ⟨k, _, h1, h2, h3, hL args s _, lw_frame hF⟩
theorem i_vc : Claimed_1_1 ∧ Claimed_1_2 := ⟨lw_limb limb_1_1 (fun args s t => by simp [limb_1_1, Cond.after, Cond.holds, Cond.value]), lw_limb limb_1_2 (fun args s t => Cond.after_iff.mpr (by
  first | (rw [show limb_1_2 = Cond.eq .result (.int 1) from rfl, Cond.eq_ints (x := 1) (y := 1) rfl rfl]; simp; done) | (simp [limb_1_2, Cond.value, Term.eval]; done)))⟩
