/-! ROWS of drafts; methods 58, 59 -/
def nxt (M : zM) : List zK → Prop
  | [] => True
  | k :: r => M 60 k.1 = hd1 r ∧ nxt M r
theorem nxt_fr {M M' : zM} : ∀ (ks : List zK), nxt M ks → (∀ k ∈ ks, M' 60 k.1 = M 60 k.1) → nxt M' ks
  | [], _, _ => trivial
  | k :: r, h, h2 => ⟨(h2 k (List.mem_cons_self ..)).trans h.1, nxt_fr r h.2 (fun q hq => h2 q (List.mem_cons_of_mem _ hq))⟩
theorem nxt_snoc {M M' : zM} {y : Int} {τ : List zN} {I : List Int} : ∀ (ks : List zK), nxt M ks → (ks.map (fun k => k.1)).Nodup → (∀ k ∈ ks, k.1 ≠ lst ks → M' 60 k.1 = M 60 k.1) → (ks ≠ [] → M' 60 (lst ks) = y) → M' 60 y = -1 → nxt M' (ks ++ [(y, τ, I)])
  | [], _, _, _, _, h6 => ⟨h6, trivial⟩
  | [k], _, _, _, h4, h6 => ⟨h4 (fun e => by cases e), h6, trivial⟩
  | k :: k2 :: r, h, hn, h3, h4, h6 => by
    have hne : k.1 ≠ lst (k2 :: r) := by
      obtain ⟨q, hq, e⟩ := lst_mem (k2 :: r) (fun h => by cases h)
      rw [← e]
      intro e2
      rw [List.map_cons, List.nodup_cons] at hn
      exact hn.1 (List.mem_map.mpr ⟨q, hq, e2.symm⟩)
    refine ⟨(h3 k (List.mem_cons_self ..) hne).trans h.1, ?_⟩
    refine nxt_snoc (k2 :: r) h.2 ?_ (fun q hq e => h3 q (List.mem_cons_of_mem _ hq) e) (fun _ => h4 (fun e => by cases e)) h6
    rw [List.map_cons, List.nodup_cons] at hn
    exact hn.2
/-- a row that is done and one that is to be done -/
def TWO (lo : Int) (M0 M : zM) (ds ks : List zK) (h : Int) : Prop := (∀ k ∈ ds ++ ks, tr M k.1 k.2.1 k.2.2) ∧ (ids (ds ++ ks)).Nodup ∧ nxt M ds ∧ nxt M ks ∧ (∀ i ∈ ids (ds ++ ks), lo ≤ i ∧ i < h) ∧ FR lo M0 M
theorem ids_app (a b : List zK) : ids (a ++ b) = ids a ++ ids b := by simp [ids]
theorem trs_app (a b : List zK) : trs (a ++ b) = trs a ++ trs b := by simp [trs]
theorem lst_ge {M : zM} {ks : List zK} (h : ∀ k ∈ ks, tr M k.1 k.2.1 k.2.2) (hk : ks ≠ []) : 0 ≤ lst ks ∧ lst ks ∈ ids ks := by
  obtain ⟨q, hq, e⟩ := lst_mem ks hk
  rw [← e]
  exact ⟨(tr_mem (h q hq)).2.1, ids_mem hq (tr_mem (h q hq)).1⟩
theorem hd1_ge {M : zM} {ks : List zK} (h : ∀ k ∈ ks, tr M k.1 k.2.1 k.2.2) (hk : ks ≠ []) : 0 ≤ hd1 ks ∧ hd1 ks ∈ ids ks := by
  cases ks with
  | nil => exact absurd rfl hk
  | cons q r => exact ⟨(tr_mem (h q (List.mem_cons_self ..))).2.1, ids_mem (List.mem_cons_self ..) (tr_mem (h q (List.mem_cons_self ..))).1⟩
theorem ids_uniq : ∀ (l : List zK), (ids l).Nodup → ∀ u ∈ l, ∀ v ∈ l, ∀ i, i ∈ u.2.2 → i ∈ v.2.2 → u = v := by
  intro l
  induction l with
  | nil => intro _ u hu; exact absurd hu List.not_mem_nil
  | cons w r ih =>
    intro hl u hu v hv i hui hvi
    have hl : (w.2.2 ++ ids r).Nodup := hl
    rw [List.nodup_append] at hl
    rcases List.mem_cons.mp hu with e1 | hu2
    · rcases List.mem_cons.mp hv with e2 | hv2
      · exact e1.trans e2.symm
      · exact absurd rfl (hl.2.2 i (e1 ▸ hui) i (ids_mem hv2 hvi))
    · rcases List.mem_cons.mp hv with e2 | hv2
      · exact absurd rfl (hl.2.2 i (e2 ▸ hvi) i (ids_mem hu2 hui))
      · exact ih hl.2.1 u hu2 v hv2 i hui hvi
/-- one more at the end of what is done -/
theorem two_push {lo h y : Int} {M0 M : zM} {ds R : List zK} {τ : List zN} {I : List Int} (h7 : ∀ k ∈ ds ++ (y, τ, I) :: R, tr M k.1 k.2.1 k.2.2) (hn : (ids (ds ++ (y, τ, I) :: R)).Nodup) (hd : nxt M ds) (hR : nxt M R) (hy : M 60 y = -1) (hr : ∀ i ∈ ids (ds ++ (y, τ, I) :: R), lo ≤ i ∧ i < h) (hF : FR lo M0 M) : TWO lo M0 (if ds = [] then M else z_upd M 60 (lst ds) y) (ds ++ [(y, τ, I)]) R h := by
  have ea : ds ++ [(y, τ, I)] ++ R = ds ++ (y, τ, I) :: R := by simp
  unfold TWO
  rw [ea]
  by_cases e : ds = []
  · subst e
    rw [if_pos rfl]
    exact ⟨h7, hn, ⟨hy, trivial⟩, hR, hr, hF⟩
  · rw [if_neg e]
    obtain ⟨q, hq, eq⟩ := lst_mem ds e
    have hq1 : q ∈ ds ++ (y, τ, I) :: R := List.mem_append_left _ hq
    have hyl : y ≠ lst ds := by
      intro e2
      have t1 := (tr_mem (h7 q hq1)).1
      have hm : (y, τ, I) ∈ ds ++ (y, τ, I) :: R := List.mem_append_right _ (List.mem_cons_self ..)
      have t2 := (tr_mem (h7 _ hm)).1
      rw [eq, ← e2] at t1
      rw [ids_app] at hn
      exact (List.nodup_append.mp hn).2.2 y (ids_mem hq t1) y (ids_mem (List.mem_cons_self ..) t2) rfl
    have rt : ∀ k ∈ ds ++ (y, τ, I) :: R, lst ds ∈ k.2.2 → k = q := fun k hk hm => ids_uniq _ hn k hk q hq1 (lst ds) hm (by rw [← eq]; exact (tr_mem (h7 q hq1)).1)
    refine ⟨fun k hk => tr_fr (h7 k hk) (fun j hj b b1 b2 b3 hb => ?_), hn, ?_, ?_, hr, fun b j hb hj => ?_⟩
    · by_cases e3 : j = lst ds
      · subst e3
        have := rt k hk hj
        subst this
        exact u_n1 (hb eq.symm).2
      · exact u_n2 e3
    · rw [ids_app] at hn
      refine nxt_snoc ds hd (nd_ids (fun k hk => h7 k (List.mem_append_left _ hk)) (List.nodup_append.mp hn).1) (fun k hk e3 => u_n2 e3) (fun _ => u_eq) (by rw [u_n2 hyl]; exact hy)
    · refine nxt_fr R hR (fun k hk => u_n2 (fun e3 => ?_))
      have hk1 : k ∈ ds ++ (y, τ, I) :: R := List.mem_append_right _ (List.mem_cons_of_mem _ hk)
      have := rt k hk1 (by rw [← e3]; exact (tr_mem (h7 k hk1)).1)
      subst this
      have t1 := (tr_mem (h7 k hk1)).1
      rw [ids_app] at hn
      exact (List.nodup_append.mp hn).2.2 _ (ids_mem hq t1) _ (ids_mem (List.mem_cons_of_mem _ hk) t1) rfl
    · have hl := hr (lst ds) (ids_mem hq1 (by rw [← eq]; exact (tr_mem (h7 q hq1)).1))
      rw [show z_upd M 60 (lst ds) y b j = M b j by
        by_cases e4 : b = 60
        · exact u_n2 (by have := hj (by omega); omega)
        · exact u_n1 e4]
      exact hF b j hb hj
section RW
variable {L d : Nat} {M M0 : zM} {Q : Option zV → zM → Prop} {T : List zT} {h a lo : Int}
theorem S_repeat {x y : Int} {τ1 τ2 : List zN} {I1 I2 : List Int} (hP : PS T h a M) (h1 : tr M x τ1 I1) (h2 : tr M y τ2 I2) (hn : (I1 ++ I2).Nodup) (hI : ∀ i ∈ I1 ++ I2, i < h) (hh : h < 1216) (ha : a < 999) (k : ∀ M', PS T (h + 1) a M' → tr M' h (mkN 1 (nFr τ1) (nUp τ2) 0 [τ1, τ2]) (h :: (I1 ++ I2)) → M' 60 h = -1 → (∀ b j, b ≠ 52 → (53 ≤ b ∧ b ≤ 60 → j < h ∧ j ≠ x ∧ j ≠ y) → M' b j = M b j) → Q (some (0, h)) M') : v_call L (d + 2) 59 [(2, 52), (0, x), (0, y)] M Q := by
  have hx := hI x (List.mem_append_left _ (tr_mem h1).1)
  have hy := hI y (List.mem_append_right _ (tr_mem h2).1)
  have hx0 := (tr_mem h1).2.1
  have hy0 := (tr_mem h2).2.1
  have hp0 := hP.2.2.2.1
  have hna := List.nodup_append.mp hn
  have pos : ∀ {z : Int} {τ : List zN} {I : List Int}, tr M z τ I → ∀ i ∈ I, 0 ≤ i := by
    intro z τ I ht i hi
    obtain ⟨so, fr, up, sg, cs, Ic, h0, _, _, _, _, e5, _, rfl, _⟩ := ht
    rcases List.mem_cons.mp hi with rfl | hi
    · exact h0
    · exact fo_pos e5 i hi
  refine v_in ?_
  refine v_load rfl rfl ⟨rfl, Nat.le_of_ble_eq_true rfl⟩ ?_
  refine v_push rfl ?_
  refine v_load rfl rfl ⟨rfl, Nat.le_of_ble_eq_true rfl⟩ ?_
  refine v_callr rfl ⟨Nat.le_of_ble_eq_true rfl, Nat.le_of_ble_eq_true rfl, rfl, Nat.le_of_ble_eq_true rfl, rfl⟩ ?_
  refine S_over hP h1 hx hh ha (fun M1 p1 o1 => ?_)
  refine v_store rfl ⟨rfl, Nat.le_of_ble_eq_true rfl, Nat.le_of_ble_eq_true rfl, rfl⟩ rfl ?_
  have t1 : tr M1 x τ1 I1 := tr_fr h1 (fun j hj b b1 b2 _ _ => o1.2.2 b j (by omega) (fun _ => hI j (List.mem_append_left _ hj)))
  have t2 : tr M1 y τ2 I2 := tr_fr h2 (fun j hj b b1 b2 _ _ => o1.2.2 b j (by omega) (fun _ => hI j (List.mem_append_right _ hj)))
  have n1 : (h :: (ids [] ++ I1)).Nodup := List.nodup_cons.mpr ⟨fun hm => by have := hI h (List.mem_append_left _ hm); omega, hna.1⟩
  have r1 : ∀ i ∈ h :: (ids [] ++ I1), 0 ≤ i ∧ i < h + 1 := by
    intro i hi
    rcases List.mem_cons.mp hi with rfl | hi
    · omega
    · have := hI i (List.mem_append_left _ hi)
      exact ⟨pos h1 i hi, by omega⟩
  have r0 : ∀ i ∈ I1 ++ I2, 0 ≤ i ∧ i < h + 1 := fun i e => ⟨(List.mem_append.mp e).elim (pos h1 i) (pos h2 i), by have := hI i e; omega⟩
  refine v_load rfl rfl ⟨rfl, Nat.le_of_ble_eq_true rfl⟩ ?_
  refine v_load rfl rfl ⟨rfl, Nat.le_of_ble_eq_true rfl⟩ ?_
  refine v_load rfl rfl ⟨rfl, Nat.le_of_ble_eq_true rfl⟩ ?_
  refine v_callr rfl ⟨Nat.le_of_ble_eq_true rfl, Nat.le_of_ble_eq_true rfl, rfl, Nat.le_of_ble_eq_true rfl, rfl⟩ ?_
  refine S_hangF (lo := 0) (M0 := M) o1.1 t1 n1 r1 (fun b j hb hj => o1.2.2 b j hb (fun z => by have := hj z; omega)) p1 (fun M2 p2 o2 f2 => ?_)
  have t22 : tr M2 y τ2 I2 := tr_fr t2 (fun j hj b b1 b2 _ _ => f2 b j (by omega) (fun _ => ⟨by have := hI j (List.mem_append_right _ hj); omega, fun e => hna.2.2 x (tr_mem h1).1 j hj e.symm, fun z => absurd rfl z⟩))
  have n2 : (h :: (ids ([] ++ [(x, τ1, I1)]) ++ I2)).Nodup := List.nodup_cons.mpr ⟨fun hm => by have := hI h (by simpa [ids] using hm); omega, by simpa [ids] using hn⟩
  have r2 : ∀ i ∈ h :: (ids ([] ++ [(x, τ1, I1)]) ++ I2), 0 ≤ i ∧ i < h + 1 := fun i hi => (List.mem_cons.mp hi).elim (fun e => by omega) (fun e => r0 i (by simpa [ids] using e))
  refine v_load rfl rfl ⟨rfl, Nat.le_of_ble_eq_true rfl⟩ ?_
  refine v_load rfl rfl ⟨rfl, Nat.le_of_ble_eq_true rfl⟩ ?_
  refine v_load rfl rfl ⟨rfl, Nat.le_of_ble_eq_true rfl⟩ ?_
  refine v_callr rfl ⟨Nat.le_of_ble_eq_true rfl, Nat.le_of_ble_eq_true rfl, rfl, Nat.le_of_ble_eq_true rfl, rfl⟩ ?_
  refine S_hangF (lo := 0) (M0 := M) o2.1 t22 n2 r2 o2.2.2 p2 (fun M3 p3 o3 f3 => ?_)
  have eu : M3 55 y = nUp τ2 := by
    obtain ⟨so, fr, up, sg, cs, Ic, -, -, -, g3, -, -, g6, g7, -⟩ := o3.1.2.2.2.2.2.2.2.1 (y, τ2, I2) (by simp)
    have g6 : τ2 = mkN so fr up sg cs := g6
    rw [show M3 55 y = up from g3, g6, mkN_up]
  refine v_load rfl rfl ⟨rfl, Nat.le_of_ble_eq_true rfl⟩ ?_
  refine v_load rfl rfl ⟨rfl, Nat.le_of_ble_eq_true rfl⟩ ?_
  refine v_callr rfl ⟨Nat.le_of_ble_eq_true rfl, Nat.le_of_ble_eq_true rfl, rfl, Nat.le_of_ble_eq_true rfl, rfl⟩ ?_
  refine S_held p3 (by omega) ?_
  refine v_ifeq rfl (fun h => absurd h (by omega)) (fun _ => ?_)
  refine v_load rfl rfl ⟨rfl, Nat.le_of_ble_eq_true rfl⟩ ?_
  refine v_load rfl rfl ⟨rfl, Nat.le_of_ble_eq_true rfl⟩ ?_
  refine v_callr rfl ⟨Nat.le_of_ble_eq_true rfl, Nat.le_of_ble_eq_true rfl, rfl, Nat.le_of_ble_eq_true rfl, rfl⟩ ?_
  refine S_held p3 (by omega) ?_
  refine v_ifeq rfl (fun h => absurd h (by omega)) (fun _ => ?_)
  refine v_load rfl rfl ⟨rfl, Nat.le_of_ble_eq_true rfl⟩ ?_
  refine v_getp rfl rfl rfl ?_
  refine v_load rfl rfl ⟨rfl, Nat.le_of_ble_eq_true rfl⟩ ?_
  refine v_load rfl rfl ⟨rfl, Nat.le_of_ble_eq_true rfl⟩ ?_
  refine v_getp rfl rfl rfl ?_
  refine v_load rfl rfl ⟨rfl, Nat.le_of_ble_eq_true rfl⟩ ?_
  refine v_ald9 rfl rfl ⟨by omega, by show _ < (1216 : Int); omega⟩ ?_
  refine v_ast9 rfl rfl (by decide) ⟨by omega, by show _ < (1216 : Int); omega⟩ ?_
  refine v_load rfl rfl ⟨rfl, Nat.le_of_ble_eq_true rfl⟩ ?_
  refine v_ret rfl rfl ?_
  rw [eu]
  have ho3 : op (z_upd M3 55 h (nUp τ2)) h 1 (nFr τ1) 0 ([] ++ [(x, τ1, I1)] ++ [(y, τ2, I2)]) := op_fr o3.1 (fun j hj b b1 b2 hb => by
    by_cases e : j = h
    · exact u_n1 (hb e).1
    · exact u_n2 e)
  have ht := op_tr ho3 u_eq
  refine k _ (PS_upd p3 (by decide)) ?_ ho3.2.2.2.2.2.2.2.2.2 (fun b j hb hj => ?_)
  · have e1 : ids ([] ++ [(x, τ1, I1)] ++ [(y, τ2, I2)]) = I1 ++ I2 := by simp [ids]
    rw [e1] at ht
    exact ht
  · rw [show z_upd M3 55 h (nUp τ2) b j = M3 b j by
      by_cases e : b = 55
      · exact u_n2 (by have := hj (by omega); omega)
      · exact u_n1 e]
    rw [f3 b j hb (fun z => ⟨by have := hj z; omega, (hj z).2.2, fun _ => (hj z).2.1⟩), f2 b j hb (fun z => ⟨by have := hj z; omega, (hj z).2.1, fun e => absurd rfl e⟩)]
    exact o1.2.2 b j hb (fun z => (hj z).1)
/-- the inner loop: pairs -/
theorem b_inner : ∀ (n : Nat) (ds ks : List zK) (h : Int) (M : zM) (row pair hd0 turn : Int) (w7 w8 w9 : zV), ks.length ≤ n → PS T h a M → a < 999 → TWO lo M0 M ds ks h → (ds ≠ [] → row = hd1 ds) → 0 ≤ pair → pair + (ks.length : Int) ≤ 300 → h + ((ks.length / 2 : Nat) : Int) ≤ 1216 →
    (∀ M' ds' one' tail' pair' w7' w8' w9', PS T (h + ((ks.length / 2 : Nat) : Int)) a M' → TWO lo M0 M' ds' [] (h + ((ks.length / 2 : Nat) : Int)) → trs ds' = trs ds ++ prs (trs ks) → v_wp L (d + 3) 58 114 [(2, 52), (0, hd0), (0, if ds' = [] then row else hd1 ds'), (0, turn), one', tail', pair', w7', w8', w9'] [] M' Q) →
    v_wp L (d + 3) 58 29 [(2, 52), (0, hd0), (0, row), (0, turn), (0, hd1 ks), (0, lst ds), (0, pair), w7, w8, w9] [] M Q
  | n, ds, [], h, M, row, pair, hd0, turn, w7, w8, w9, _, hP, ha, hT, hrow, hp0, hp, hh, k => by
    have e0 : h + ((([] : List zK).length / 2 : Nat) : Int) = h := by simp
    rw [e0] at k
    have fin : ∀ one' tail' pair', v_wp L (d + 3) 58 114 [(2, 52), (0, hd0), (0, row), (0, turn), one', tail', pair', w7, w8, w9] [] M Q := by
      intro o t p
      have := k M ds o t p w7 w8 w9 hP hT (by simp [trs, prs])
      by_cases e : ds = []
      · rw [if_pos e] at this; exact this
      · rw [if_neg e, ← hrow e] at this; exact this
    refine v_load rfl rfl ⟨rfl, Nat.le_of_ble_eq_true rfl⟩ ?_
    refine v_push rfl ?_
    refine v_ige rfl (fun c1 => ?_) (fun c1 => ?_)
    · exact fin _ _ _
    · refine v_load rfl rfl ⟨rfl, Nat.le_of_ble_eq_true rfl⟩ ?_
      refine v_push rfl ?_
      refine v_ieq rfl (fun _ => ?_) (fun h => absurd h (by show ¬ ¬ ((-1 : Int) = -1); omega))
      exact fin _ _ _
  | 0, ds, k1 :: ks, h, M, row, pair, hd0, turn, w7, w8, w9, hl, _, _, _, _, _, _, _, _ => absurd hl (by simp)
  | n + 1, ds, [k1], h, M, row, pair, hd0, turn, w7, w8, w9, hl, hP, ha, hT, hrow, hp0, hp, hh, k => by
    obtain ⟨h7, hn, hd, hk, hr, hF⟩ := hT
    have hk1 : k1 ∈ ds ++ [k1] := List.mem_append_right _ (List.mem_cons_self ..)
    have hm := hr _ (ids_mem hk1 (tr_mem (h7 k1 hk1)).1)
    have h0 := (tr_mem (h7 k1 hk1)).2.1
    have hx : M 60 k1.1 = -1 := hk.1
    have hp : pair + 1 ≤ 300 := by simpa using hp
    have hT2 := two_push (y := k1.1) (τ := k1.2.1) (I := k1.2.2) h7 hn hd trivial hx hr hF
    have e0 : ((([k1] : List zK).length / 2 : Nat) : Int) = 0 := by simp
    rw [e0, Int.add_zero] at hh k
    refine v_load rfl rfl ⟨rfl, Nat.le_of_ble_eq_true rfl⟩ ?_
    refine v_push rfl ?_
    refine v_ige rfl (fun h => absurd h (by omega)) (fun _ => ?_)
    refine v_load rfl rfl ⟨rfl, Nat.le_of_ble_eq_true rfl⟩ ?_
    refine v_push rfl ?_
    refine v_ieq rfl (fun h => absurd h (by show ¬ k1.1 = -1; omega)) (fun _ => ?_)
    refine v_load rfl rfl ⟨rfl, Nat.le_of_ble_eq_true rfl⟩ ?_
    refine v_load rfl rfl ⟨rfl, Nat.le_of_ble_eq_true rfl⟩ ?_
    refine v_callr rfl ⟨Nat.le_of_ble_eq_true rfl, Nat.le_of_ble_eq_true rfl, rfl, Nat.le_of_ble_eq_true rfl, rfl⟩ ?_
    refine S_nextTo hP ?_
    rw [show (if 0 ≤ hd1 [k1] ∧ hd1 [k1] < h then M 60 (hd1 [k1]) else -1) = -1 from (if_pos (show 0 ≤ hd1 [k1] ∧ hd1 [k1] < h from ⟨h0, hm.2⟩)).trans hx]
    refine v_store rfl ⟨rfl, Nat.le_of_ble_eq_true rfl, Nat.le_of_ble_eq_true rfl, rfl⟩ rfl ?_
    refine v_load rfl rfl ⟨rfl, Nat.le_of_ble_eq_true rfl⟩ ?_
    refine v_load rfl rfl ⟨rfl, Nat.le_of_ble_eq_true rfl⟩ ?_
    refine v_callr rfl ⟨Nat.le_of_ble_eq_true rfl, Nat.le_of_ble_eq_true rfl, rfl, Nat.le_of_ble_eq_true rfl, rfl⟩ ?_
    refine S_nextTo hP ?_
    rw [if_neg (by omega)]
    refine v_store rfl ⟨rfl, Nat.le_of_ble_eq_true rfl, Nat.le_of_ble_eq_true rfl, rfl⟩ rfl ?_
    refine v_load rfl rfl ⟨rfl, Nat.le_of_ble_eq_true rfl⟩ ?_
    refine v_push rfl ?_
    refine v_ine rfl (fun h => absurd h (by omega)) (fun _ => ?_)
    refine v_load rfl rfl ⟨rfl, Nat.le_of_ble_eq_true rfl⟩ ?_
    refine v_goto rfl ?_
    refine v_store rfl ⟨rfl, Nat.le_of_ble_eq_true rfl, Nat.le_of_ble_eq_true rfl, rfl⟩ rfl ?_
    have go : ∀ M', PS T h a M' → TWO lo M0 M' (ds ++ [k1]) [] h → ∀ row', row' = hd1 (ds ++ [k1]) → v_wp L (d + 3) 58 29 [(2, 52), (0, hd0), (0, row'), (0, turn), (0, -1), (0, k1.1), (0, pair + 1), (0, -1), (0, -1), (0, k1.1)] [] M' Q := by
      intro M' hP' hT' row' hrow'
      have := b_inner n (ds ++ [k1]) [] h M' row' (pair + 1) hd0 turn (0, -1) (0, -1) (0, k1.1) (by simp) hP' ha hT' (fun _ => hrow') (by omega) (by simp; omega) (by simp; exact hP'.2.2.2.2.1) ?_
      · rw [lst_snoc] at this; exact this
      · intro M2 ds2 o2 t2 p2 a7 a8 a9 g1 g2 g3
        have e1 : h + ((([] : List zK).length / 2 : Nat) : Int) = h := by simp
        rw [e1] at g1 g2
        have := k M2 ds2 o2 t2 p2 a7 a8 a9 g1 g2 (by rw [g3, trs_app]; simp [trs, prs])
        have hne : ds2 ≠ [] := by
          intro z
          rw [z] at g3
          have := congrArg List.length g3
          simp [trs, prs] at this
        rw [if_neg hne] at this ⊢
        exact this
    by_cases e : ds = []
    · subst e
      rw [if_pos rfl] at hT2
      refine v_load rfl rfl ⟨rfl, Nat.le_of_ble_eq_true rfl⟩ ?_
      refine v_push rfl ?_
      refine v_ine rfl (fun h => absurd h (by show ¬ ¬ (-1 : Int) = -1; omega)) (fun _ => ?_)
      refine v_load rfl rfl ⟨rfl, Nat.le_of_ble_eq_true rfl⟩ ?_
      refine v_store rfl ⟨rfl, Nat.le_of_ble_eq_true rfl, Nat.le_of_ble_eq_true rfl, rfl⟩ rfl ?_
      refine v_goto rfl ?_
      refine v_load rfl rfl ⟨rfl, Nat.le_of_ble_eq_true rfl⟩ ?_
      refine v_store rfl ⟨rfl, Nat.le_of_ble_eq_true rfl, Nat.le_of_ble_eq_true rfl, rfl⟩ rfl ?_
      refine v_load rfl rfl ⟨rfl, Nat.le_of_ble_eq_true rfl⟩ ?_
      refine v_store rfl ⟨rfl, Nat.le_of_ble_eq_true rfl, Nat.le_of_ble_eq_true rfl, rfl⟩ rfl ?_
      refine v_iinc rfl rfl rfl (by omega) rfl ?_
      refine v_goto rfl ?_
      exact go M hP hT2 _ rfl
    · rw [if_neg e] at hT2
      have hlg := lst_ge (fun k hk => h7 k (List.mem_append_left _ hk)) e
      have hlr := hr (lst ds) (by rw [ids_app]; exact List.mem_append_left _ hlg.2)
      refine v_load rfl rfl ⟨rfl, Nat.le_of_ble_eq_true rfl⟩ ?_
      refine v_push rfl ?_
      refine v_ine rfl (fun _ => ?_) (fun h => absurd h (by omega))
      refine v_load rfl rfl ⟨rfl, Nat.le_of_ble_eq_true rfl⟩ ?_
      refine v_load rfl rfl ⟨rfl, Nat.le_of_ble_eq_true rfl⟩ ?_
      refine v_load rfl rfl ⟨rfl, Nat.le_of_ble_eq_true rfl⟩ ?_
      refine v_callr rfl ⟨Nat.le_of_ble_eq_true rfl, Nat.le_of_ble_eq_true rfl, rfl, Nat.le_of_ble_eq_true rfl, rfl⟩ ?_
      refine S_follow hP (by omega) ?_
      refine v_load rfl rfl ⟨rfl, Nat.le_of_ble_eq_true rfl⟩ ?_
      refine v_store rfl ⟨rfl, Nat.le_of_ble_eq_true rfl, Nat.le_of_ble_eq_true rfl, rfl⟩ rfl ?_
      refine v_load rfl rfl ⟨rfl, Nat.le_of_ble_eq_true rfl⟩ ?_
      refine v_store rfl ⟨rfl, Nat.le_of_ble_eq_true rfl, Nat.le_of_ble_eq_true rfl, rfl⟩ rfl ?_
      refine v_iinc rfl rfl rfl (by omega) rfl ?_
      refine v_goto rfl ?_
      exact go _ (PS_upd hP (by decide)) hT2 _ (by rw [hd1_snoc _ _ e]; exact hrow e)
  | n + 1, ds, k1 :: k2 :: ks, h, M, row, pair, hd0, turn, w7, w8, w9, hl, hP, ha, hT, hrow, hp0, hp, hh, k => by
    obtain ⟨h7, hn, hd, hk, hr, hF⟩ := hT
    have hk1 : k1 ∈ ds ++ k1 :: k2 :: ks := List.mem_append_right _ (List.mem_cons_self ..)
    have hk2 : k2 ∈ ds ++ k1 :: k2 :: ks := List.mem_append_right _ (List.mem_cons_of_mem _ (List.mem_cons_self ..))
    have hm1 := hr _ (ids_mem hk1 (tr_mem (h7 k1 hk1)).1)
    have hm2 := hr _ (ids_mem hk2 (tr_mem (h7 k2 hk2)).1)
    have h01 := (tr_mem (h7 k1 hk1)).2.1
    have h02 := (tr_mem (h7 k2 hk2)).2.1
    have hx1 : M 60 k1.1 = k2.1 := hk.1
    have hx2 : M 60 k2.1 = hd1 ks := hk.2.1
    have hlen : (k1 :: k2 :: ks).length / 2 = ks.length / 2 + 1 := by simp; omega
    have hp : pair + ((ks.length : Int) + 2) ≤ 300 := by simp at hp; omega
    have hl : ks.length + 2 ≤ n + 1 := by simpa using hl
    rw [hlen] at hh k
    have hid : ids (ds ++ k1 :: k2 :: ks) = ids ds ++ (k1.2.2 ++ (k2.2.2 ++ ids ks)) := by simp [ids]
    have hn' := hn
    rw [hid] at hn'
    obtain ⟨na, nb, nc⟩ := List.nodup_append.mp hn'
    obtain ⟨nb1, nb2, nb3⟩ := List.nodup_append.mp nb
    obtain ⟨nb4, nb5, nb6⟩ := List.nodup_append.mp nb2
    have n12 : (k1.2.2 ++ k2.2.2).Nodup := List.nodup_append.mpr ⟨nb1, nb4, fun i hi j hj => nb3 i hi j (List.mem_append_left _ hj)⟩
    refine v_load rfl rfl ⟨rfl, Nat.le_of_ble_eq_true rfl⟩ ?_
    refine v_push rfl ?_
    refine v_ige rfl (fun h => absurd h (by omega)) (fun _ => ?_)
    refine v_load rfl rfl ⟨rfl, Nat.le_of_ble_eq_true rfl⟩ ?_
    refine v_push rfl ?_
    refine v_ieq rfl (fun h => absurd h (by show ¬ k1.1 = -1; omega)) (fun _ => ?_)
    refine v_load rfl rfl ⟨rfl, Nat.le_of_ble_eq_true rfl⟩ ?_
    refine v_load rfl rfl ⟨rfl, Nat.le_of_ble_eq_true rfl⟩ ?_
    refine v_callr rfl ⟨Nat.le_of_ble_eq_true rfl, Nat.le_of_ble_eq_true rfl, rfl, Nat.le_of_ble_eq_true rfl, rfl⟩ ?_
    refine S_nextTo hP ?_
    rw [show (if 0 ≤ hd1 (k1 :: k2 :: ks) ∧ hd1 (k1 :: k2 :: ks) < h then M 60 (hd1 (k1 :: k2 :: ks)) else -1) = k2.1 from (if_pos (show 0 ≤ hd1 (k1 :: k2 :: ks) ∧ hd1 (k1 :: k2 :: ks) < h from ⟨h01, hm1.2⟩)).trans hx1]
    refine v_store rfl ⟨rfl, Nat.le_of_ble_eq_true rfl, Nat.le_of_ble_eq_true rfl, rfl⟩ rfl ?_
    refine v_load rfl rfl ⟨rfl, Nat.le_of_ble_eq_true rfl⟩ ?_
    refine v_load rfl rfl ⟨rfl, Nat.le_of_ble_eq_true rfl⟩ ?_
    refine v_callr rfl ⟨Nat.le_of_ble_eq_true rfl, Nat.le_of_ble_eq_true rfl, rfl, Nat.le_of_ble_eq_true rfl, rfl⟩ ?_
    refine S_nextTo hP ?_
    rw [if_pos (by omega), hx2]
    refine v_store rfl ⟨rfl, Nat.le_of_ble_eq_true rfl, Nat.le_of_ble_eq_true rfl, rfl⟩ rfl ?_
    refine v_load rfl rfl ⟨rfl, Nat.le_of_ble_eq_true rfl⟩ ?_
    refine v_push rfl ?_
    refine v_ine rfl (fun _ => ?_) (fun h => absurd h (by omega))
    refine v_load rfl rfl ⟨rfl, Nat.le_of_ble_eq_true rfl⟩ ?_
    refine v_load rfl rfl ⟨rfl, Nat.le_of_ble_eq_true rfl⟩ ?_
    refine v_load rfl rfl ⟨rfl, Nat.le_of_ble_eq_true rfl⟩ ?_
    refine v_callr rfl ⟨Nat.le_of_ble_eq_true rfl, Nat.le_of_ble_eq_true rfl, rfl, Nat.le_of_ble_eq_true rfl, rfl⟩ ?_
    refine S_repeat hP (h7 k1 hk1) (h7 k2 hk2) n12 (fun i hi => (hr i (by rw [hid]; exact List.mem_append_right _ ((List.mem_append.mp hi).elim (fun z => List.mem_append_left _ z) (fun z => List.mem_append_right _ (List.mem_append_left _ z))))).2) (by omega) ha (fun M1 p1 t1 x1 f1 => ?_)
    refine v_store rfl ⟨rfl, Nat.le_of_ble_eq_true rfl, Nat.le_of_ble_eq_true rfl, rfl⟩ rfl ?_
    have hid2 : ids (ds ++ (h, mkN 1 (nFr k1.2.1) (nUp k2.2.1) 0 [k1.2.1, k2.2.1], h :: (k1.2.2 ++ k2.2.2)) :: ks) = ids ds ++ h :: (k1.2.2 ++ (k2.2.2 ++ ids ks)) := by simp [ids]
    have fd : ∀ k ∈ ds ++ ks, ∀ j ∈ k.2.2, ∀ b, 53 ≤ b → M1 b j = M b j := by
      intro k hkm j hj b b1
      have hkm' : k ∈ ds ++ k1 :: k2 :: ks := by
        rcases List.mem_append.mp hkm with z | z
        · exact List.mem_append_left _ z
        · exact List.mem_append_right _ (List.mem_cons_of_mem _ (List.mem_cons_of_mem _ z))
      have hjr := hr j (ids_mem hkm' hj)
      have n1 : j ≠ k1.1 := by
        intro e
        rcases List.mem_append.mp hkm with z | z
        · exact nc j (ids_mem z hj) k1.1 (List.mem_append_left _ (tr_mem (h7 k1 hk1)).1) e
        · exact nb3 k1.1 (tr_mem (h7 k1 hk1)).1 j (List.mem_append_right _ (ids_mem z hj)) e.symm
      have n2 : j ≠ k2.1 := by
        intro e
        rcases List.mem_append.mp hkm with z | z
        · exact nc j (ids_mem z hj) k2.1 (List.mem_append_right _ (List.mem_append_left _ (tr_mem (h7 k2 hk2)).1)) e
        · exact nb6 k2.1 (tr_mem (h7 k2 hk2)).1 j (ids_mem z hj) e.symm
      exact f1 b j (by omega) (fun _ => ⟨hjr.2, n1, n2⟩)
    have h7d : ∀ k ∈ ds ++ (h, mkN 1 (nFr k1.2.1) (nUp k2.2.1) 0 [k1.2.1, k2.2.1], h :: (k1.2.2 ++ k2.2.2)) :: ks, tr M1 k.1 k.2.1 k.2.2 := by
      intro k hkm
      have other : k ∈ ds ++ ks → tr M1 k.1 k.2.1 k.2.2 := fun z => tr_fr (h7 k (by
        rcases List.mem_append.mp z with z | z
        · exact List.mem_append_left _ z
        · exact List.mem_append_right _ (List.mem_cons_of_mem _ (List.mem_cons_of_mem _ z)))) (fun j hj b b1 _ _ _ => fd k z j hj b b1)
      rcases List.mem_append.mp hkm with z | z
      · exact other (List.mem_append_left _ z)
      · rcases List.mem_cons.mp z with z | z
        · subst z; exact t1
        · exact other (List.mem_append_right _ z)
    have hr2 : ∀ i ∈ ids (ds ++ (h, mkN 1 (nFr k1.2.1) (nUp k2.2.1) 0 [k1.2.1, k2.2.1], h :: (k1.2.2 ++ k2.2.2)) :: ks), lo ≤ i ∧ i < h + 1 := by
      intro i hi
      rw [hid2] at hi
      by_cases e : i = h
      · omega
      · have := hr i (by
          rw [hid]
          rcases List.mem_append.mp hi with z | z
          · exact List.mem_append_left _ z
          · exact List.mem_append_right _ ((List.mem_cons.mp z).elim (fun z => absurd z e) (fun z => z)))
        omega
    have hn2 : (ids (ds ++ (h, mkN 1 (nFr k1.2.1) (nUp k2.2.1) 0 [k1.2.1, k2.2.1], h :: (k1.2.2 ++ k2.2.2)) :: ks)).Nodup := by
      rw [hid2]
      refine List.nodup_append.mpr ⟨na, List.nodup_cons.mpr ⟨fun hm => ?_, nb⟩, fun i hi j hj e => ?_⟩
      · have := hr h (by rw [hid]; exact List.mem_append_right _ hm); omega
      · rcases List.mem_cons.mp hj with z | z
        · have := hr i (by rw [hid]; exact List.mem_append_left _ hi); omega
        · exact nc i hi j z e
    have ehd : hd1 (k1 :: k2 :: ks) = k1.1 := rfl
    have hF1 : FR lo M0 M1 := fun b j hb hj => (f1 b j hb (fun z => have z1 := hj z; ⟨Int.lt_of_lt_of_le z1 (by omega), fun e => absurd z1 (by omega), fun e => absurd z1 (by omega)⟩)).trans (hF b j hb hj)
    have nd1 : nxt M1 ds := nxt_fr ds hd (fun k hkm => fd k (List.mem_append_left _ hkm) k.1 (tr_mem (h7 k (List.mem_append_left _ hkm))).1 60 (by decide))
    have nk1 : nxt M1 ks := nxt_fr ks hk.2.2 (fun k hkm => fd k (List.mem_append_right _ hkm) k.1 (tr_mem (h7 k (List.mem_append_right _ (List.mem_cons_of_mem _ (List.mem_cons_of_mem _ hkm))))).1 60 (by decide))
    have hT2 := two_push h7d hn2 nd1 nk1 x1 hr2 hF1
    have go : ∀ M', PS T (h + 1) a M' → TWO lo M0 M' (ds ++ [(h, mkN 1 (nFr k1.2.1) (nUp k2.2.1) 0 [k1.2.1, k2.2.1], h :: (k1.2.2 ++ k2.2.2))]) ks (h + 1) → ∀ row', row' = hd1 (ds ++ [(h, mkN 1 (nFr k1.2.1) (nUp k2.2.1) 0 [k1.2.1, k2.2.1], h :: (k1.2.2 ++ k2.2.2))]) → v_wp L (d + 3) 58 29 [(2, 52), (0, hd0), (0, row'), (0, turn), (0, hd1 ks), (0, h), (0, pair + 1), (0, k2.1), (0, hd1 ks), (0, h)] [] M' Q := by
      intro M' hP' hT' row' hrow'
      have := b_inner n (ds ++ [(h, mkN 1 (nFr k1.2.1) (nUp k2.2.1) 0 [k1.2.1, k2.2.1], h :: (k1.2.2 ++ k2.2.2))]) ks (h + 1) M' row' (pair + 1) hd0 turn (0, k2.1) (0, hd1 ks) (0, h) (by omega) hP' ha hT' (fun _ => hrow') (by omega) (by omega) (by omega) ?_
      · rw [lst_snoc] at this; exact this
      · intro M2 ds2 o2 t2 p2 a7 a8 a9 g1 g2 g3
        rw [show h + 1 + ((ks.length / 2 : Nat) : Int) = h + ((ks.length / 2 + 1 : Nat) : Int) by omega] at g1 g2
        have := k M2 ds2 o2 t2 p2 a7 a8 a9 g1 g2 (by rw [g3, trs_app]; simp [trs, prs])
        have hne : ds2 ≠ [] := by
          intro z
          rw [z] at g3
          have := congrArg List.length g3
          simp [trs] at this
        rw [if_neg hne] at this ⊢
        exact this
    by_cases e : ds = []
    · subst e
      rw [if_pos rfl] at hT2
      refine v_load rfl rfl ⟨rfl, Nat.le_of_ble_eq_true rfl⟩ ?_
      refine v_push rfl ?_
      refine v_ine rfl (fun h => absurd h (by show ¬ ¬ (-1 : Int) = -1; omega)) (fun _ => ?_)
      refine v_load rfl rfl ⟨rfl, Nat.le_of_ble_eq_true rfl⟩ ?_
      refine v_store rfl ⟨rfl, Nat.le_of_ble_eq_true rfl, Nat.le_of_ble_eq_true rfl, rfl⟩ rfl ?_
      refine v_goto rfl ?_
      refine v_load rfl rfl ⟨rfl, Nat.le_of_ble_eq_true rfl⟩ ?_
      refine v_store rfl ⟨rfl, Nat.le_of_ble_eq_true rfl, Nat.le_of_ble_eq_true rfl, rfl⟩ rfl ?_
      refine v_load rfl rfl ⟨rfl, Nat.le_of_ble_eq_true rfl⟩ ?_
      refine v_store rfl ⟨rfl, Nat.le_of_ble_eq_true rfl, Nat.le_of_ble_eq_true rfl, rfl⟩ rfl ?_
      refine v_iinc rfl rfl rfl (by omega) rfl ?_
      refine v_goto rfl ?_
      exact go M1 p1 hT2 _ rfl
    · rw [if_neg e] at hT2
      have hlg := lst_ge (fun k hk => h7 k (List.mem_append_left _ hk)) e
      have hlr := hr (lst ds) (by rw [ids_app]; exact List.mem_append_left _ hlg.2)
      refine v_load rfl rfl ⟨rfl, Nat.le_of_ble_eq_true rfl⟩ ?_
      refine v_push rfl ?_
      refine v_ine rfl (fun _ => ?_) (fun h => absurd h (by omega))
      refine v_load rfl rfl ⟨rfl, Nat.le_of_ble_eq_true rfl⟩ ?_
      refine v_load rfl rfl ⟨rfl, Nat.le_of_ble_eq_true rfl⟩ ?_
      refine v_load rfl rfl ⟨rfl, Nat.le_of_ble_eq_true rfl⟩ ?_
      refine v_callr rfl ⟨Nat.le_of_ble_eq_true rfl, Nat.le_of_ble_eq_true rfl, rfl, Nat.le_of_ble_eq_true rfl, rfl⟩ ?_
      refine S_follow p1 (by omega) ?_
      refine v_load rfl rfl ⟨rfl, Nat.le_of_ble_eq_true rfl⟩ ?_
      refine v_store rfl ⟨rfl, Nat.le_of_ble_eq_true rfl, Nat.le_of_ble_eq_true rfl, rfl⟩ rfl ?_
      refine v_load rfl rfl ⟨rfl, Nat.le_of_ble_eq_true rfl⟩ ?_
      refine v_store rfl ⟨rfl, Nat.le_of_ble_eq_true rfl, Nat.le_of_ble_eq_true rfl, rfl⟩ rfl ?_
      refine v_iinc rfl rfl rfl (by omega) rfl ?_
      refine v_goto rfl ?_
      exact go _ (PS_upd p1 (by decide)) hT2 _ (by rw [hd1_snoc _ _ e]; exact hrow e)
end RW
