theorem two_swap {lo h : Int} {M0 M : zM} {ks : List zK} (hT : TWO lo M0 M ks [] h) : TWO lo M0 M [] ks h := by
  obtain ⟨h7, hn, hd, hk, hr, hF⟩ := hT
  rw [List.append_nil] at h7 hn hr
  exact ⟨h7, hn, trivial, hd, hr, hF⟩
theorem trs_len (ks : List zK) : (trs ks).length = ks.length := by simp [trs]
section IT
variable {L d : Nat} {M0 : zM} {Q : Option zV → zM → Prop} {T : List zT} {a lo : Int}
theorem b_outer : ∀ (n : Nat) (ks : List zK) (h : Int) (M : zM) (turn hd0 : Int) (w4 w5 w6 w7 w8 w9 : zV), ks.length ≤ n → PS T h a M → a < 999 → TWO lo M0 M [] ks h → 0 ≤ turn → turn + (ks.length : Int) ≤ 300 → h + ((ks.length - 1 : Nat) : Int) ≤ 1216 →
    (∀ M' ks', PS T (h + ((ks.length - 1 : Nat) : Int)) a M' → TWO lo M0 M' [] ks' (h + ((ks.length - 1 : Nat) : Int)) → trs ks' = bal (trs ks) → Q (some (0, hd1 ks')) M') →
    v_wp L (d + 3) 58 4 [(2, 52), (0, hd0), (0, hd1 ks), (0, turn), w4, w5, w6, w7, w8, w9] [] M Q
  | n, [], h, M, turn, hd0, w4, w5, w6, w7, w8, w9, _, hP, ha, hT, ht0, ht, hh, k => by
    have e0 : h + ((([] : List zK).length - 1 : Nat) : Int) = h := by simp
    rw [e0] at k
    refine v_load rfl rfl ⟨rfl, Nat.le_of_ble_eq_true rfl⟩ ?_
    refine v_push rfl ?_
    refine v_ige rfl (fun c1 => ?_) (fun c1 => ?_)
    · refine v_load rfl rfl ⟨rfl, Nat.le_of_ble_eq_true rfl⟩ ?_
      refine v_ret rfl rfl ?_
      exact k M [] hP hT rfl
    · refine v_load rfl rfl ⟨rfl, Nat.le_of_ble_eq_true rfl⟩ ?_
      refine v_load rfl rfl ⟨rfl, Nat.le_of_ble_eq_true rfl⟩ ?_
      refine v_callr rfl ⟨Nat.le_of_ble_eq_true rfl, Nat.le_of_ble_eq_true rfl, rfl, Nat.le_of_ble_eq_true rfl, rfl⟩ ?_
      refine S_nextTo hP ?_
      rw [if_neg (by show ¬ (0 ≤ (-1 : Int) ∧ _); omega)]
      refine v_push rfl ?_
      refine v_ieq rfl (fun _ => ?_) (fun h => absurd h (by omega))
      refine v_load rfl rfl ⟨rfl, Nat.le_of_ble_eq_true rfl⟩ ?_
      refine v_ret rfl rfl ?_
      exact k M [] hP hT rfl
  | n, [k1], h, M, turn, hd0, w4, w5, w6, w7, w8, w9, _, hP, ha, hT, ht0, ht, hh, k => by
    have e0 : h + ((([k1] : List zK).length - 1 : Nat) : Int) = h := by simp
    rw [e0] at k
    have hx : M 60 (hd1 [k1]) = -1 := hT.2.2.2.1.1
    refine v_load rfl rfl ⟨rfl, Nat.le_of_ble_eq_true rfl⟩ ?_
    refine v_push rfl ?_
    refine v_ige rfl (fun c1 => ?_) (fun c1 => ?_)
    · refine v_load rfl rfl ⟨rfl, Nat.le_of_ble_eq_true rfl⟩ ?_
      refine v_ret rfl rfl ?_
      exact k M [k1] hP hT rfl
    · refine v_load rfl rfl ⟨rfl, Nat.le_of_ble_eq_true rfl⟩ ?_
      refine v_load rfl rfl ⟨rfl, Nat.le_of_ble_eq_true rfl⟩ ?_
      refine v_callr rfl ⟨Nat.le_of_ble_eq_true rfl, Nat.le_of_ble_eq_true rfl, rfl, Nat.le_of_ble_eq_true rfl, rfl⟩ ?_
      refine S_nextTo hP ?_
      rw [show (if 0 ≤ hd1 [k1] ∧ hd1 [k1] < h then M 60 (hd1 [k1]) else -1) = -1 by split; exact hx; rfl]
      refine v_push rfl ?_
      refine v_ieq rfl (fun _ => ?_) (fun h => absurd h (by omega))
      refine v_load rfl rfl ⟨rfl, Nat.le_of_ble_eq_true rfl⟩ ?_
      refine v_ret rfl rfl ?_
      exact k M [k1] hP hT rfl
  | 0, _ :: _, h, M, turn, hd0, w4, w5, w6, w7, w8, w9, hl, _, _, _, _, _, _, _ => absurd hl (by simp)
  | n + 1, k1 :: k2 :: r, h, M, turn, hd0, w4, w5, w6, w7, w8, w9, hl, hP, ha, hT, ht0, ht, hh, k => by
    have hx : M 60 (hd1 (k1 :: k2 :: r)) = k2.1 := hT.2.2.2.1.1
    have hg : k1 ∈ [] ++ k1 :: k2 :: r := List.mem_cons_self ..
    have hg2 : k2 ∈ [] ++ k1 :: k2 :: r := List.mem_cons_of_mem _ (List.mem_cons_self ..)
    have h1 := hT.2.2.2.2.1 k1.1 (ids_mem hg (tr_mem (hT.1 k1 hg)).1)
    have h0 := (tr_mem (hT.1 k1 hg)).2.1
    have h2 := (tr_mem (hT.1 k2 hg2)).2.1
    have l2 : 2 ≤ (k1 :: k2 :: r).length := by simp
    have bp := bal_prs (trs (k1 :: k2 :: r))
    have ex : (if 0 ≤ hd1 (k1 :: k2 :: r) ∧ hd1 (k1 :: k2 :: r) < h then M 60 (hd1 (k1 :: k2 :: r)) else -1) = k2.1 := (if_pos (show 0 ≤ hd1 (k1 :: k2 :: r) ∧ hd1 (k1 :: k2 :: r) < h from ⟨h0, h1.2⟩)).trans hx
    generalize hks : k1 :: k2 :: r = ks at *
    refine v_load rfl rfl ⟨rfl, Nat.le_of_ble_eq_true rfl⟩ ?_
    refine v_push rfl ?_
    refine v_ige rfl (fun h => absurd h (by omega)) (fun _ => ?_)
    refine v_load rfl rfl ⟨rfl, Nat.le_of_ble_eq_true rfl⟩ ?_
    refine v_load rfl rfl ⟨rfl, Nat.le_of_ble_eq_true rfl⟩ ?_
    refine v_callr rfl ⟨Nat.le_of_ble_eq_true rfl, Nat.le_of_ble_eq_true rfl, rfl, Nat.le_of_ble_eq_true rfl, rfl⟩ ?_
    refine S_nextTo hP ?_
    rw [ex]
    refine v_push rfl ?_
    refine v_ieq rfl (fun h => absurd h (by omega)) (fun _ => ?_)
    refine v_load rfl rfl ⟨rfl, Nat.le_of_ble_eq_true rfl⟩ ?_
    refine v_store rfl ⟨rfl, Nat.le_of_ble_eq_true rfl, Nat.le_of_ble_eq_true rfl, rfl⟩ rfl ?_
    refine v_push rfl ?_
    refine v_store rfl ⟨rfl, Nat.le_of_ble_eq_true rfl, Nat.le_of_ble_eq_true rfl, rfl⟩ rfl ?_
    refine v_push rfl ?_
    refine v_store rfl ⟨rfl, Nat.le_of_ble_eq_true rfl, Nat.le_of_ble_eq_true rfl, rfl⟩ rfl ?_
    refine b_inner ks.length [] ks h M _ 0 hd0 turn w7 w8 w9 (Nat.le_refl _) hP ha hT (fun z => absurd rfl z) (by omega) (by omega) (by omega) ?_
    intro M' ds' one' tail' pair' w7' w8' w9' p1 t1 e1
    have e1 : trs ds' = prs (trs ks) := e1
    have hlen : ds'.length = (ks.length + 1) / 2 := by rw [← trs_len ds', e1, prs_len, trs_len]
    have hne : ds' ≠ [] := fun z => by rw [z] at hlen; simp at hlen; omega
    rw [if_neg hne]
    refine v_iinc rfl rfl rfl (by omega) rfl ?_
    refine v_goto rfl ?_
    refine b_outer n ds' _ M' (turn + 1) hd0 _ _ _ _ _ _ (by omega) p1 ha (two_swap t1) (by omega) (by omega) (by omega) ?_
    intro M2 ks2 p2 t2 e2
    rw [e1, bp] at e2
    rw [show h + ((ks.length / 2 : Nat) : Int) + ((ds'.length - 1 : Nat) : Int) = h + ((ks.length - 1 : Nat) : Int) by omega] at p2 t2
    exact k M2 ks2 p2 t2 e2
theorem S_balanced {ks : List zK} {h : Int} {M : zM} (hP : PS T h a M) (ha : a < 999) (hT : TWO lo M0 M [] ks h) (hl : ks.length ≤ 300) (hh : h + ((ks.length - 1 : Nat) : Int) ≤ 1216) (k : ∀ M' ks', PS T (h + ((ks.length - 1 : Nat) : Int)) a M' → TWO lo M0 M' [] ks' (h + ((ks.length - 1 : Nat) : Int)) → trs ks' = bal (trs ks) → Q (some (0, hd1 ks')) M') : v_call L (d + 3) 58 [(2, 52), (0, hd1 ks)] M Q := by
  refine v_in ?_
  refine v_load rfl rfl ⟨rfl, Nat.le_of_ble_eq_true rfl⟩ ?_
  refine v_store rfl ⟨rfl, Nat.le_of_ble_eq_true rfl, Nat.le_of_ble_eq_true rfl, rfl⟩ rfl ?_
  refine v_push rfl ?_
  refine v_store rfl ⟨rfl, Nat.le_of_ble_eq_true rfl, Nat.le_of_ble_eq_true rfl, rfl⟩ rfl ?_
  exact b_outer ks.length ks h M 0 _ _ _ _ _ _ _ (Nat.le_refl _) hP ha hT (by omega) (by omega) hh k
end IT
/-- items: their loop -/
def GIl (L : Nat) (T : List zT) (f : Nat) : Prop := ∀ (ne a h lo turn : Int) (M0 M : zM) (d : Nat) (Q : Option zV → zM → Prop) (ks : List zK) (le : List zN) (ts : List (List zN)) (a' inB : Int) (w : zV), P T f 0 ne le a = some (ts, a') → (le = [] ∧ inB = 0 ∨ le ≠ [] ∧ inB = 1) → PS T h a M → TWO lo M0 M [] ks h → lo ≤ h → 0 ≤ turn → turn ≤ a → a ≤ (T.length : Int) → h + (ts.flatten.length : Int) ≤ 1216 → 0 ≤ ne → ne ≤ 10 → 8 * (10 - ne).toNat + 10 ≤ d →
  (∀ M' ks' tail' turn' w', PS T (h + (ts.flatten.length : Int)) a' M' → TWO lo M0 M' [] ks' (h + (ts.flatten.length : Int)) → trs ks' = trs ks ++ ts → v_wp L d 38 90 [(2, 52), (0, ne), (0, inB), (0, hd1 ks'), tail', turn', w'] [] M' Q) → v_wp L d 38 8 [(2, 52), (0, ne), (0, inB), (0, hd1 ks), (0, lst ks), (0, turn), w] [] M Q
section IT2
variable {L : Nat} {T : List zT} {f : Nat}
theorem g_items (hT : tkOK T) (hI : GE L T f 1 39 8) (hL : GIl L T f) : GIl L T (f + 1) := by
  intro ne a h lo turn M0 M d Q ks le ts a' inB w hp hle hP hT2 hlo ht0 hta hal hh hn0 hn1 hd k
  obtain ⟨d, rfl⟩ : ∃ e, d = e + 3 := ⟨d - 3, by omega⟩
  have p2 := hP.2.1
  have hl : (T.length : Int) ≤ 300 := by have := hP.2.2.1.2.1; omega
  have ha0 := hP.2.2.2.2.2.1
  unfold P at hp
  simp only at hp
  by_cases hc : ¬ a < (T.length : Int) ∨ (le ≠ [] ∧ sgn T a = 125)
  · rw [if_pos hc] at hp
    obtain ⟨rfl, rfl⟩ : [] = ts ∧ a = a' := by simpa using hp
    have e0 : h + ((([] : List (List zN)).flatten.length : Nat) : Int) = h := by simp
    rw [e0] at k
    have hin0 : a < (T.length : Int) → inB = 1 ∧ sgn T a = 125 := by
      intro hz
      rcases hc with z | z
      · exact absurd hz z
      · rcases hle with y | y
        · exact absurd y.1 z.1
        · exact ⟨y.2, z.2⟩
    have fin : ∀ t u w, v_wp L (d + 3) 38 90 [(2, 52), (0, ne), (0, inB), (0, hd1 ks), t, u, w] [] M Q := fun t u w => k M ks t u w hP hT2 (by simp)
    refine v_load rfl rfl ⟨rfl, Nat.le_of_ble_eq_true rfl⟩ ?_
    refine v_push rfl ?_
    refine v_ige rfl (fun c1 => ?_) (fun c1 => ?_)
    · exact fin _ _ _
    · refine v_load rfl rfl ⟨rfl, Nat.le_of_ble_eq_true rfl⟩ ?_
      refine v_getp rfl rfl rfl ?_
      refine v_load rfl rfl ⟨rfl, Nat.le_of_ble_eq_true rfl⟩ ?_
      refine v_getx rfl rfl p2 ?_
      refine v_callr rfl ⟨Nat.le_of_ble_eq_true rfl, Nat.le_of_ble_eq_true rfl, rfl, Nat.le_of_ble_eq_true rfl, rfl⟩ ?_
      refine S_tkHas hP.2.2.1 ?_
      refine v_ifeq rfl (fun c2 => ?_) (fun c2 => ?_)
      · exact fin _ _ _
      · rw [z_if01] at c2
        have c2 := Decidable.not_not.mp c2
        have hin := hin0 c2.2
        refine v_load rfl rfl ⟨rfl, Nat.le_of_ble_eq_true rfl⟩ ?_
        refine v_ifeq rfl (fun h => absurd h (by omega)) (fun _ => ?_)
        refine v_load rfl rfl ⟨rfl, Nat.le_of_ble_eq_true rfl⟩ ?_
        refine v_getp rfl rfl rfl ?_
        refine v_load rfl rfl ⟨rfl, Nat.le_of_ble_eq_true rfl⟩ ?_
        refine v_getx rfl rfl p2 ?_
        refine v_callr rfl ⟨Nat.le_of_ble_eq_true rfl, Nat.le_of_ble_eq_true rfl, rfl, Nat.le_of_ble_eq_true rfl, rfl⟩ ?_
        refine S_sgn hP ?_
        refine v_push rfl ?_
        refine v_ine rfl (fun h => absurd h (by omega)) (fun _ => ?_)
        refine v_goto rfl ?_
        exact fin _ _ _
  · rw [if_neg hc] at hp
    have hlt : a < (T.length : Int) := by
      by_cases z : a < (T.length : Int)
      · exact z
      · exact absurd (Or.inl z) hc
    obtain ⟨e, e1, e2⟩ := ob_some hp
    obtain ⟨τe, q1, q2, q3, q4, q5, q6, q7⟩ := P_ok1 hT e1 (by omega) hlt
    obtain ⟨ea, eb⟩ := e
    have q1 : ea = [τe] := q1
    subst q1
    have q3 : a < eb := q3
    have q4 : eb ≤ (T.length : Int) := q4
    obtain ⟨r, e3, e4⟩ := ob_some e2
    obtain ⟨rs, rb⟩ := r
    obtain ⟨rfl, rfl⟩ : [τe] ++ rs = ts ∧ rb = a' := by simpa using e4
    have e3 : P T f 0 ne le eb = some (rs, rb) := e3
    have hlen : ([τe] ++ rs).flatten.length = τe.length + rs.flatten.length := by simp
    rw [hlen] at hh k
    have step : v_wp L (d + 3) 38 53 [(2, 52), (0, ne), (0, inB), (0, hd1 ks), (0, lst ks), (0, turn), w] [] M Q := by
      refine v_load rfl rfl ⟨rfl, Nat.le_of_ble_eq_true rfl⟩ ?_
      refine v_load rfl rfl ⟨rfl, Nat.le_of_ble_eq_true rfl⟩ ?_
      refine v_callr rfl ⟨Nat.le_of_ble_eq_true rfl, Nat.le_of_ble_eq_true rfl, rfl, Nat.le_of_ble_eq_true rfl, rfl⟩ ?_
      refine hI ne a h M (d + 2) _ τe eb e1 hP hal (fun _ => hlt) (by omega) hn0 hn1 (by omega) (fun M1 x1 I1 p1 r1 => ?_)
      refine v_store rfl ⟨rfl, Nat.le_of_ble_eq_true rfl, Nat.le_of_ble_eq_true rfl, rfl⟩ rfl ?_
      obtain ⟨t1, rg1, fr1, nx1⟩ := r1
      obtain ⟨h7, hn, hdd, hk, hr, hF⟩ := hT2
      have h7' : ∀ k ∈ ks, tr M k.1 k.2.1 k.2.2 := h7
      have hr' : ∀ i ∈ ids ks, lo ≤ i ∧ i < h := hr
      have hid : ids (ks ++ (x1, τe, I1) :: []) = ids ks ++ I1 := by simp [ids]
      have hT3 := two_push (lo := lo) (M0 := M0) (h := h + (τe.length : Int)) (M := M1) (ds := ks) (y := x1) (τ := τe) (I := I1) (R := []) (fun k hkm => by
        rcases List.mem_append.mp hkm with z | z
        · exact tr_fr (h7' k z) (fun j hj b b1 b2 _ _ => fr1 b j (by omega) (fun _ => (hr' j (ids_mem z hj)).2))
        · have z := List.mem_singleton.mp z
          subst z
          exact t1) (by
        rw [hid]
        refine List.nodup_append.mpr ⟨hn, (tr_mem t1).2.2.1, fun i hi j hj e => ?_⟩
        have := hr' i hi
        have := rg1 j hj
        omega) (nxt_fr ks hk (fun k hkm => fr1 60 k.1 (by decide) (fun _ => (hr' k.1 (ids_mem hkm (tr_mem (h7' k hkm)).1)).2))) trivial nx1 (fun i hi => by
        rw [hid] at hi
        rcases List.mem_append.mp hi with z | z
        · have := hr' i z; omega
        · have := rg1 i z; omega) (FR_tr hF fr1 hlo)
      have go : ∀ M', PS T (h + (τe.length : Int)) eb M' → TWO lo M0 M' (ks ++ [(x1, τe, I1)]) [] (h + (τe.length : Int)) → ∀ hd', hd' = hd1 (ks ++ [(x1, τe, I1)]) → v_wp L (d + 3) 38 8 [(2, 52), (0, ne), (0, inB), (0, hd'), (0, x1), (0, turn + 1), (0, x1)] [] M' Q := by
        intro M' g1 g2 hd' g3
        subst g3
        have := hL ne eb (h + (τe.length : Int)) lo (turn + 1) M0 M' (d + 3) Q (ks ++ [(x1, τe, I1)]) le rs rb inB (0, x1) e3 hle g1 (two_swap g2) (by omega) (by omega) (by omega) q4 (by omega) hn0 hn1 hd ?_
        · rw [lst_snoc] at this; exact this
        · intro M2 ks2 t2 u2 w2 k1 k2 k3
          rw [show h + (τe.length : Int) + (rs.flatten.length : Int) = h + ((τe.length + rs.flatten.length : Nat) : Int) by omega] at k1 k2
          refine k M2 ks2 t2 u2 w2 k1 k2 ?_
          rw [k3, trs_app]
          simp [trs]
      by_cases e : ks = []
      · subst e
        rw [if_pos rfl] at hT3
        refine v_load rfl rfl ⟨rfl, Nat.le_of_ble_eq_true rfl⟩ ?_
        refine v_push rfl ?_
        refine v_ine rfl (fun h => absurd h (by show ¬ ¬ (-1 : Int) = -1; omega)) (fun _ => ?_)
        refine v_load rfl rfl ⟨rfl, Nat.le_of_ble_eq_true rfl⟩ ?_
        refine v_store rfl ⟨rfl, Nat.le_of_ble_eq_true rfl, Nat.le_of_ble_eq_true rfl, rfl⟩ rfl ?_
        refine v_goto rfl ?_
        refine v_load rfl rfl ⟨rfl, Nat.le_of_ble_eq_true rfl⟩ ?_
        refine v_store rfl ⟨rfl, Nat.le_of_ble_eq_true rfl, Nat.le_of_ble_eq_true rfl, rfl⟩ rfl ?_
        refine v_iinc rfl rfl rfl (by omega) rfl ?_
        refine v_goto rfl ?_
        exact go M1 p1 hT3 _ rfl
      · rw [if_neg e] at hT3
        have hlg := lst_ge h7' e
        have hlr := hr' (lst ks) hlg.2
        refine v_load rfl rfl ⟨rfl, Nat.le_of_ble_eq_true rfl⟩ ?_
        refine v_push rfl ?_
        refine v_ine rfl (fun _ => ?_) (fun h => absurd h (by omega))
        refine v_load rfl rfl ⟨rfl, Nat.le_of_ble_eq_true rfl⟩ ?_
        refine v_load rfl rfl ⟨rfl, Nat.le_of_ble_eq_true rfl⟩ ?_
        refine v_load rfl rfl ⟨rfl, Nat.le_of_ble_eq_true rfl⟩ ?_
        refine v_callr rfl ⟨Nat.le_of_ble_eq_true rfl, Nat.le_of_ble_eq_true rfl, rfl, Nat.le_of_ble_eq_true rfl, rfl⟩ ?_
        refine S_follow p1 (by omega) ?_
        refine v_load rfl rfl ⟨rfl, Nat.le_of_ble_eq_true rfl⟩ ?_
        refine v_store rfl ⟨rfl, Nat.le_of_ble_eq_true rfl, Nat.le_of_ble_eq_true rfl, rfl⟩ rfl ?_
        refine v_iinc rfl rfl rfl (by omega) rfl ?_
        refine v_goto rfl ?_
        exact go _ (PS_upd p1 (by decide)) hT3 _ (by rw [hd1_snoc _ _ e])
    have h1 : 0 ≤ a ∧ a < (T.length : Int) := ⟨ha0, hlt⟩
    have hle2 : ¬ inB = 0 → le ≠ [] := by
      intro z
      rcases hle with y | y
      · exact absurd y.2 z
      · exact y.1
    refine v_load rfl rfl ⟨rfl, Nat.le_of_ble_eq_true rfl⟩ ?_
    refine v_push rfl ?_
    refine v_ige rfl (fun h => absurd h (by omega)) (fun _ => ?_)
    refine v_load rfl rfl ⟨rfl, Nat.le_of_ble_eq_true rfl⟩ ?_
    refine v_getp rfl rfl rfl ?_
    refine v_load rfl rfl ⟨rfl, Nat.le_of_ble_eq_true rfl⟩ ?_
    refine v_getx rfl rfl p2 ?_
    refine v_callr rfl ⟨Nat.le_of_ble_eq_true rfl, Nat.le_of_ble_eq_true rfl, rfl, Nat.le_of_ble_eq_true rfl, rfl⟩ ?_
    refine S_tkHas hP.2.2.1 ?_
    rw [if_pos h1]
    refine v_ifeq rfl (fun h => absurd h (by omega)) (fun _ => ?_)
    refine v_load rfl rfl ⟨rfl, Nat.le_of_ble_eq_true rfl⟩ ?_
    refine v_ifeq rfl (fun c1 => ?_) (fun c1 => ?_)
    · exact step
    · refine v_load rfl rfl ⟨rfl, Nat.le_of_ble_eq_true rfl⟩ ?_
      refine v_getp rfl rfl rfl ?_
      refine v_load rfl rfl ⟨rfl, Nat.le_of_ble_eq_true rfl⟩ ?_
      refine v_getx rfl rfl p2 ?_
      refine v_callr rfl ⟨Nat.le_of_ble_eq_true rfl, Nat.le_of_ble_eq_true rfl, rfl, Nat.le_of_ble_eq_true rfl, rfl⟩ ?_
      refine S_sgn hP ?_
      refine v_push rfl ?_
      refine v_ine rfl (fun _ => ?_) (fun h => absurd h (fun z => hc (Or.inr ⟨hle2 c1, z⟩)))
      exact step
end IT2
