theorem RWS_join {lo h : Int} {V0 V V' : zM} {p q : zK} {R : List zK} {τ : List zN} (hw : RWS lo V0 V (p :: q :: R) h) (ht : tr V' h τ (h :: (q.2.2 ++ p.2.2))) (h60 : V' 60 h = -1) (hv : ∀ b j, b ≠ 52 → (53 ≤ b ∧ b ≤ 60 → j < h ∧ j ≠ q.1 ∧ j ≠ p.1) → V' b j = V b j) : RWS lo V0 V' ((h, τ, h :: (q.2.2 ++ p.2.2)) :: R) (h + 1) := by
  obtain ⟨w1, w2, w3, w4⟩ := hw
  have ip : ids (p :: q :: R) = p.2.2 ++ (q.2.2 ++ ids R) := by simp [ids]
  rw [ip] at w2 w3
  have mp := (tr_mem (w1 p (List.mem_cons_self ..)).1).1
  have mq := (tr_mem (w1 q (List.mem_cons_of_mem _ (List.mem_cons_self ..))).1).1
  have rp := w3 _ (List.mem_append_left _ mp)
  have rq := w3 _ (List.mem_append_right _ (List.mem_append_left _ mq))
  have n1 := List.nodup_append.mp w2
  have n2 := List.nodup_append.mp n1.2.1
  have keep : ∀ k ∈ R, ∀ j ∈ k.2.2, ∀ b, b ≠ 52 → V' b j = V b j := by
    intro k hk j hj b hb
    have hm : j ∈ ids R := ids_mem hk hj
    have := w3 j (List.mem_append_right _ (List.mem_append_right _ hm))
    exact hv b j hb (fun _ => ⟨this.2, fun e => n2.2.2 _ mq _ hm e.symm, fun e => n1.2.2 _ mp _ (List.mem_append_right _ hm) e.symm⟩)
  refine ⟨?_, ?_, ?_, ?_⟩
  · intro k hk
    rcases List.mem_cons.mp hk with rfl | hk
    · exact ⟨ht, h60⟩
    · have hw := w1 k (List.mem_cons_of_mem _ (List.mem_cons_of_mem _ hk))
      exact ⟨tr_fr hw.1 (fun j hj b b1 b2 _ _ => keep k hk j hj b (by omega)), by rw [keep k hk _ (tr_mem hw.1).1 60 (by decide)]; exact hw.2⟩
  · show (h :: (q.2.2 ++ p.2.2) ++ ids R).Nodup
    rw [List.cons_append, List.nodup_cons]
    refine ⟨fun hm => ?_, List.nodup_append.mpr ⟨List.nodup_append.mpr ⟨n2.1, n1.1, fun i hi j hj e => n1.2.2 _ hj _ (List.mem_append_left _ hi) e.symm⟩, n2.2.1, fun i hi j hj e => ?_⟩⟩
    · have := w3 h (by
        rcases List.mem_append.mp hm with hm | hm
        · rcases List.mem_append.mp hm with hm | hm
          · exact List.mem_append_right _ (List.mem_append_left _ hm)
          · exact List.mem_append_left _ hm
        · exact List.mem_append_right _ (List.mem_append_right _ hm))
      omega
    · rcases List.mem_append.mp hi with hi | hi
      · exact n2.2.2 _ hi _ hj e
      · exact n1.2.2 _ hi _ (List.mem_append_right _ hj) e
  · intro i hi
    have hi : i ∈ h :: (q.2.2 ++ p.2.2) ++ ids R := hi
    rw [List.cons_append] at hi
    rcases List.mem_cons.mp hi with rfl | hm
    · omega
    · have := w3 i (by
        rcases List.mem_append.mp hm with hm | hm
        · rcases List.mem_append.mp hm with hm | hm
          · exact List.mem_append_right _ (List.mem_append_left _ hm)
          · exact List.mem_append_left _ hm
        · exact List.mem_append_right _ (List.mem_append_right _ hm))
      omega
  · refine FR_tr w4 (fun b j hb hj => hv b j hb (fun z => ?_)) (Int.le_refl _)
    have := hj z
    omega
def rowAt (M : zM) : Int → List zK → Prop
  | _, [] => True
  | i, k :: R => M 97 i = k.1 ∧ rowAt M (i + 1) R
theorem rowAt_fr {M M' : zM} : ∀ (R : List zK) (i : Int), rowAt M i R → (∀ j, i ≤ j → j < i + (R.length : Int) → M' 97 j = M 97 j) → rowAt M' i R
  | [], _, _, _ => trivial
  | k :: R, i, h, hk => by
    have hl : (((k :: R).length : Nat) : Int) = (R.length : Int) + 1 := by simp
    exact ⟨by rw [hk i (Int.le_refl _) (by omega)]; exact h.1, rowAt_fr R (i + 1) h.2 (fun j j1 j2 => hk j (by omega) (by omega))⟩
section RB2
variable {L d : Nat} {V0 : zM} {Q : Option zV → zM → Prop} {t : List Int} {a op_ ne rl lo : Int}
theorem bal_in {fr kk : Int} {w : zV} {R : List zK} : ∀ (qs : List zP) (p : zP) (us vs : List (List zN)) (e : Nat) (h : Int) (M V : zM), KS t h a op_ ne rl V M → RWS lo V0 V ((p :: qs).map Prod.snd ++ R) h → pcs M (p :: qs) → STk qs us → vs.length = 2 ^ e → p.1 = ((2 ^ e : Nat) : Int) → p.2.2.1 = balT vs → geH p.1 qs → qs.length ≤ 18 → h + (qs.length : Int) ≤ 1216 → us.length + vs.length ≤ 300 →
    (∀ M' V' qs' h', KS t h' a op_ ne rl V' M' → RWS lo V0 V' (qs'.map Prod.snd ++ R) h' → pcs M' qs' → STk qs' (us ++ vs) → h' + (qs'.length : Int) = h + (qs.length : Int) + 1 → KC M M' → v_wp L (d + 2) 201 110 [(2, 77), (0, fr), (0, (qs'.length : Int)), (0, kk), w] [] M' Q) →
    v_wp L (d + 2) 201 35 [(2, 77), (0, fr), (0, (qs.length : Int) + 1), (0, kk), w] [] M Q
  | [], p, us, vs, e, h, M, V, hK, hW, hp, hs, hv, he, ht, hg, hq, hh, hl, k => by
    refine v_load rfl rfl ⟨rfl, Nat.le_of_ble_eq_true rfl⟩ ?_
    refine v_push rfl ?_
    refine v_ile rfl (fun _ => ?_) (fun h => absurd h (by show ¬ (1 : Int) < 0 + 1; decide))
    exact k M V [p] h hK hW hp ⟨us, vs, e, rfl, hv, he, ht, hs, trivial⟩ (by simp) KC_rf
  | q :: qs, p, us, vs, e, h, M, V, hK, hW, hp, hs, hv, he, ht, hg, hq, hh, hl, k => by
    have hg : p.1 ≤ q.1 := hg
    have hq' : qs.length + 1 ≤ 18 := hq
    have hlen : (((q :: qs).length : Nat) : Int) = (qs.length : Int) + 1 := by simp
    obtain ⟨m1, m2, m3, m4, m5⟩ := hp
    rw [hlen] at m1 m2 hh k ⊢
    obtain ⟨us', vs', e', g1, g2, g3, g4, g5, g6⟩ := id hs
    have ei : (qs.length : Int) + 1 + 1 - 2 = (qs.length : Int) := by omega
    have ej : (qs.length : Int) + 1 + 1 - 1 = (qs.length : Int) + 1 := by omega
    have ek : (qs.length : Int) + 1 - 1 = (qs.length : Int) := by omega
    have wp := hW.1 p.2 (List.mem_cons_self ..)
    have wq := hW.1 q.2 (List.mem_cons_of_mem _ (List.mem_cons_self ..))
    have hi2 : ids ((p :: q :: qs).map Prod.snd ++ R) = p.2.2.2 ++ (q.2.2.2 ++ ids (qs.map Prod.snd ++ R)) := by simp [ids]
    have hnd : (q.2.2.2 ++ p.2.2.2).Nodup := by
      have := hW.2.1
      rw [hi2] at this
      have n1 := List.nodup_append.mp this
      have n2 := List.nodup_append.mp n1.2.1
      exact List.nodup_append.mpr ⟨n2.1, n1.1, fun i hi j hj e => n1.2.2 _ hj _ (List.mem_append_left _ hi) e.symm⟩
    have hin : ∀ i ∈ q.2.2.2 ++ p.2.2.2, i < h := fun i hi => (hW.2.2.1 i (by
      rw [hi2]
      rcases List.mem_append.mp hi with hi | hi
      · exact List.mem_append_right _ (List.mem_append_left _ hi)
      · exact List.mem_append_left _ hi)).2
    by_cases c1 : q.1 = p.1
    rotate_left
    · refine v_load rfl rfl ⟨rfl, Nat.le_of_ble_eq_true rfl⟩ ?_
      refine v_push rfl ?_
      refine v_ile rfl (fun h => absurd h (by omega)) (fun _ => ?_)
      refine v_load rfl rfl ⟨rfl, Nat.le_of_ble_eq_true rfl⟩ ?_
      refine v_getp rfl rfl rfl ?_
      refine v_load rfl rfl ⟨rfl, Nat.le_of_ble_eq_true rfl⟩ ?_
      refine v_push rfl ?_
      refine v_sub rfl (by omega) ?_
      rw [ei]
      refine v_ald9 rfl rfl ⟨by omega, by show _ < (20 : Int); omega⟩ ?_
      rw [m4]
      refine v_load rfl rfl ⟨rfl, Nat.le_of_ble_eq_true rfl⟩ ?_
      refine v_getp rfl rfl rfl ?_
      refine v_load rfl rfl ⟨rfl, Nat.le_of_ble_eq_true rfl⟩ ?_
      refine v_push rfl ?_
      refine v_sub rfl (by omega) ?_
      rw [ej]
      refine v_ald9 rfl rfl ⟨by omega, by show _ < (20 : Int); omega⟩ ?_
      rw [m2]
      refine v_ine rfl (fun _ => ?_) (fun h => absurd h (fun z => c1 z))
      exact k M V (p :: q :: qs) h hK hW ⟨by rw [hlen]; exact m1, by rw [hlen]; exact m2, m3, m4, m5⟩ ⟨us, vs, e, rfl, hv, he, ht, hs, (show p.1 < q.1 by omega)⟩ (by simp; omega) KC_rf
    refine v_load rfl rfl ⟨rfl, Nat.le_of_ble_eq_true rfl⟩ ?_
    refine v_push rfl ?_
    refine v_ile rfl (fun h => absurd h (by omega)) (fun _ => ?_)
    refine v_load rfl rfl ⟨rfl, Nat.le_of_ble_eq_true rfl⟩ ?_
    refine v_getp rfl rfl rfl ?_
    refine v_load rfl rfl ⟨rfl, Nat.le_of_ble_eq_true rfl⟩ ?_
    refine v_push rfl ?_
    refine v_sub rfl (by omega) ?_
    rw [ei]
    refine v_ald9 rfl rfl ⟨by omega, by show _ < (20 : Int); omega⟩ ?_
    rw [m4]
    refine v_load rfl rfl ⟨rfl, Nat.le_of_ble_eq_true rfl⟩ ?_
    refine v_getp rfl rfl rfl ?_
    refine v_load rfl rfl ⟨rfl, Nat.le_of_ble_eq_true rfl⟩ ?_
    refine v_push rfl ?_
    refine v_sub rfl (by omega) ?_
    rw [ej]
    refine v_ald9 rfl rfl ⟨by omega, by show _ < (20 : Int); omega⟩ ?_
    rw [m2]
    refine v_ine rfl (fun h => absurd h (fun z => z c1)) (fun _ => ?_)
    refine v_load rfl rfl ⟨rfl, Nat.le_of_ble_eq_true rfl⟩ ?_
    refine v_push rfl ?_
    refine v_sub rfl (by omega) ?_
    rw [ej]
    refine v_store rfl ⟨rfl, Nat.le_of_ble_eq_true rfl, Nat.le_of_ble_eq_true rfl, rfl⟩ rfl ?_
    refine v_load rfl rfl ⟨rfl, Nat.le_of_ble_eq_true rfl⟩ ?_
    refine v_getp rfl rfl rfl ?_
    refine v_load rfl rfl ⟨rfl, Nat.le_of_ble_eq_true rfl⟩ ?_
    refine v_push rfl ?_
    refine v_sub rfl (by omega) ?_
    rw [ek]
    refine v_load rfl rfl ⟨rfl, Nat.le_of_ble_eq_true rfl⟩ ?_
    refine v_load rfl rfl ⟨rfl, Nat.le_of_ble_eq_true rfl⟩ ?_
    refine v_getp rfl rfl rfl ?_
    refine v_load rfl rfl ⟨rfl, Nat.le_of_ble_eq_true rfl⟩ ?_
    refine v_push rfl ?_
    refine v_sub rfl (by omega) ?_
    rw [ek]
    refine v_ald9 rfl rfl ⟨by omega, by show _ < (20 : Int); omega⟩ ?_
    rw [m3]
    refine v_load rfl rfl ⟨rfl, Nat.le_of_ble_eq_true rfl⟩ ?_
    refine v_getp rfl rfl rfl ?_
    refine v_load rfl rfl ⟨rfl, Nat.le_of_ble_eq_true rfl⟩ ?_
    refine v_ald9 rfl rfl ⟨by omega, by show _ < (20 : Int); omega⟩ ?_
    rw [m1]
    refine v_callr rfl ⟨Nat.le_of_ble_eq_true rfl, Nat.le_of_ble_eq_true rfl, rfl, Nat.le_of_ble_eq_true rfl, rfl⟩ ?_
    refine R_joins hK wq.1 wp.1 wq.2 wp.2 hnd hin (by omega) (fun M1 V1 k1 t1 s1 v1 b1 => ?_)
    refine v_ast9 rfl rfl (by decide) ⟨by omega, by show _ < (20 : Int); omega⟩ ?_
    have x99 : z_upd M1 98 (qs.length : Int) h 99 (qs.length : Int) = q.1 := by rw [u_n1 (by decide), b1 99 _ (by decide) (by omega)]; exact m4
    refine v_load rfl rfl ⟨rfl, Nat.le_of_ble_eq_true rfl⟩ ?_
    refine v_getp rfl rfl rfl ?_
    refine v_load rfl rfl ⟨rfl, Nat.le_of_ble_eq_true rfl⟩ ?_
    refine v_push rfl ?_
    refine v_sub rfl (by omega) ?_
    rw [ek]
    refine v_push rfl ?_
    refine v_load rfl rfl ⟨rfl, Nat.le_of_ble_eq_true rfl⟩ ?_
    refine v_getp rfl rfl rfl ?_
    refine v_load rfl rfl ⟨rfl, Nat.le_of_ble_eq_true rfl⟩ ?_
    refine v_push rfl ?_
    refine v_sub rfl (by omega) ?_
    rw [ek]
    refine v_ald9 rfl rfl ⟨by omega, by show _ < (20 : Int); omega⟩ ?_
    rw [x99]
    refine v_mul rfl (by omega) ?_
    refine v_ast9 rfl rfl (by decide) ⟨by omega, by show _ < (20 : Int); omega⟩ ?_
    refine v_goto rfl ?_
    have kc1 : KC M (z_upd (z_upd M1 98 (qs.length : Int) h) 99 (qs.length : Int) (2 * q.1)) := KC_tr (KC_KB b1) (KC_tr (KC_u (Or.inl rfl)) (KC_u (Or.inr rfl)))
    obtain ⟨-, ⟨-, -, p27, p29, p30⟩, -, -⟩ := id k1
    have hW1 := RWS_join hW t1 s1 v1
    have e2 : 2 ^ e' = 2 ^ e := by omega
    have hjt : mkN 1 (nFr q.2.2.1) (nUp p.2.2.1) 0 [q.2.2.1, p.2.2.1] = balT (vs' ++ vs) := by
      rw [g4, ht]
      exact (balT_join g2 (by rw [hv]; exact Nat.two_pow_pos e) (by omega)).symm
    rw [hjt] at hW1
    have hus : us ++ vs = us' ++ (vs' ++ vs) := by rw [g1, List.append_assoc]
    rw [hus] at k
    have hge : geH (2 * q.1) qs := by
      cases qs with
      | nil => trivial
      | cons r qs =>
        have h6 : q.1 < r.1 := g6
        obtain ⟨_, _, e3, -, -, g9, -⟩ := g5
        show 2 * q.1 ≤ r.1
        rw [g3, g9] at h6 ⊢
        have := pow_step (e := e') (e' := e3) (by omega)
        omega
    have lus : us.length = us'.length + vs'.length := by rw [g1, List.length_append]
    refine bal_in qs (2 * q.1, (h, balT (vs' ++ vs), h :: (q.2.2.2 ++ p.2.2.2))) us' (vs' ++ vs) (e' + 1) (h + 1) _ V1 (KS_ch k1 (fun b j h1 _ => by rw [u_n1 (by omega), u_n1 (by omega)]) (by rw [u_n1 (by decide), u_n1 (by decide)]; exact p27) (by rw [u_n1 (by decide), u_n1 (by decide)]; exact p29) (by rw [u_n1 (by decide), u_n1 (by decide)]; exact p30)) hW1 ⟨by rw [u_n1 (by decide), u_eq], u_eq, pcs_fr qs m5 (fun b j hb hj => ?_)⟩ g5 ?_ ?_ rfl hge (by omega) (by omega) ?_ (fun M' V' qs' h' a1 a2 a3 a4 a5 a6 => k M' V' qs' h' a1 a2 a3 a4 (by omega) (KC_tr kc1 a6))
    · rw [u_n2 (by omega), u_n2 (by omega), b1 b j (by omega) (by omega)]
    · rw [List.length_append, Nat.pow_succ]; omega
    · show 2 * q.1 = _; rw [Nat.pow_succ]; omega
    · rw [List.length_append]; omega
theorem bal_out {fr : Int} {w : zV} : ∀ (R : List zK) (qs : List zP) (us : List (List zN)) (h kk : Int) (M V : zM), KS t h a op_ ne rl V M → RWS lo V0 V (qs.map Prod.snd ++ R) h → pcs M qs → STk qs us → rl = kk + (R.length : Int) → rowAt M kk R → us.length + R.length ≤ 300 → 0 ≤ kk → rl ≤ 300 → h + (qs.length : Int) + (R.length : Int) ≤ 1217 →
    (∀ M' V' qs' h' kk', KS t h' a op_ ne rl V' M' → RWS lo V0 V' (qs'.map Prod.snd) h' → pcs M' qs' → STk qs' (us ++ trs R) → h' + (qs'.length : Int) = h + (qs.length : Int) + (R.length : Int) → KC M M' → v_wp L (d + 2) 201 116 [(2, 77), (0, fr), (0, (qs'.length : Int)), (0, kk'), w] [] M' Q) →
    v_wp L (d + 2) 201 4 [(2, 77), (0, fr), (0, (qs.length : Int)), (0, kk), w] [] M Q
  | [], qs, us, h, kk, M, V, hK, hW, hp, hs, er, hr, hl, hk0, hrl, hh, k => by
    have p5 := hK.2.1.2.2.2.2
    have er : rl = kk := by rw [er]; simp
    refine v_load rfl rfl ⟨rfl, Nat.le_of_ble_eq_true rfl⟩ ?_
    refine v_load rfl rfl ⟨rfl, Nat.le_of_ble_eq_true rfl⟩ ?_
    refine v_getx rfl rfl (p5) ?_
    refine v_ige rfl (fun _ => ?_) (fun h => absurd h (by omega))
    exact k M V qs h kk hK (by simpa using hW) hp (by simpa [trs] using hs) (by simp) KC_rf
  | q :: R, qs, us, h, kk, M, V, hK, hW, hp, hs, er, hr, hl, hk0, hrl, hh, k => by
    obtain ⟨-, ⟨-, -, p27, p29, p30⟩, -, -⟩ := id hK
    have hlen : (((q :: R).length : Nat) : Int) = (R.length : Int) + 1 := by simp
    have hlen' : (q :: R).length = R.length + 1 := rfl
    rw [hlen] at er hh k
    obtain ⟨hr1, hr2⟩ := hr
    have hfew := STk_len hs (by omega)
    have hpow : ((2 ^ 0 : Nat) : Int) = 1 := rfl
    have hW1 : RWS lo V0 V ((((1 : Int), q) :: qs).map Prod.snd ++ R) h := by
      obtain ⟨w1, w2, w3, w4⟩ := hW
      have hsub : ∀ x, x ∈ (((1 : Int), q) :: qs).map Prod.snd ++ R ↔ x ∈ qs.map Prod.snd ++ q :: R := fun x => by simp; grind
      refine ⟨fun k hk => w1 k ((hsub k).mp hk), ?_, fun i hi => w3 i ?_, w4⟩
      · have : (ids ((((1 : Int), q) :: qs).map Prod.snd ++ R)).Perm (ids (qs.map Prod.snd ++ q :: R)) := by
          unfold ids
          refine List.Perm.flatMap_right _ ?_
          show (q :: (qs.map Prod.snd ++ R)).Perm (qs.map Prod.snd ++ q :: R)
          exact List.perm_middle.symm
        exact this.nodup_iff.mpr w2
      · obtain ⟨x, hx, hi⟩ := List.mem_flatMap.mp hi
        exact List.mem_flatMap.mpr ⟨x, (hsub x).mp hx, hi⟩
    refine v_load rfl rfl ⟨rfl, Nat.le_of_ble_eq_true rfl⟩ ?_
    refine v_load rfl rfl ⟨rfl, Nat.le_of_ble_eq_true rfl⟩ ?_
    refine v_getx rfl rfl (p30) ?_
    refine v_ige rfl (fun h => absurd h (by omega)) (fun _ => ?_)
    refine v_load rfl rfl ⟨rfl, Nat.le_of_ble_eq_true rfl⟩ ?_
    refine v_getp rfl rfl rfl ?_
    refine v_load rfl rfl ⟨rfl, Nat.le_of_ble_eq_true rfl⟩ ?_
    refine v_load rfl rfl ⟨rfl, Nat.le_of_ble_eq_true rfl⟩ ?_
    refine v_getp rfl rfl rfl ?_
    refine v_load rfl rfl ⟨rfl, Nat.le_of_ble_eq_true rfl⟩ ?_
    refine v_ald9 rfl rfl ⟨by omega, by show _ < (300 : Int); omega⟩ ?_
    rw [hr1]
    refine v_ast9 rfl rfl (by decide) ⟨by omega, by show _ < (20 : Int); omega⟩ ?_
    refine v_load rfl rfl ⟨rfl, Nat.le_of_ble_eq_true rfl⟩ ?_
    refine v_getp rfl rfl rfl ?_
    refine v_load rfl rfl ⟨rfl, Nat.le_of_ble_eq_true rfl⟩ ?_
    refine v_push rfl ?_
    refine v_ast9 rfl rfl (by decide) ⟨by omega, by show _ < (20 : Int); omega⟩ ?_
    refine v_load rfl rfl ⟨rfl, Nat.le_of_ble_eq_true rfl⟩ ?_
    refine v_push rfl ?_
    refine v_add rfl (by omega) ?_
    refine v_store rfl ⟨rfl, Nat.le_of_ble_eq_true rfl, Nat.le_of_ble_eq_true rfl, rfl⟩ rfl ?_
    have kc1 : KC M (z_upd (z_upd M 98 (qs.length : Int) q.1) 99 (qs.length : Int) 1) := KC_tr (KC_u (Or.inl rfl)) (KC_u (Or.inr rfl))
    refine bal_in qs (1, q) us [q.2.1] 0 h _ V (KS_ch (op' := op_) (ne' := ne) (rl' := rl) hK (fun b j h1 _ => by rw [u_n1 (by omega), u_n1 (by omega)]) (by rw [u_n1 (by decide), u_n1 (by decide)]; exact p27) (by rw [u_n1 (by decide), u_n1 (by decide)]; exact p29) (by rw [u_n1 (by decide), u_n1 (by decide)]; exact p30)) hW1 ⟨by rw [u_n1 (by decide), u_eq], u_eq, pcs_fr qs hp (fun b j hb hj => by rw [u_n2 (by omega), u_n2 (by omega)])⟩ hs rfl rfl rfl ?_ (by omega) (by omega) (by show us.length + 1 ≤ 300; omega) ?_
    · cases qs with
      | nil => trivial
      | cons r qs =>
        obtain ⟨_, _, e3, -, -, g9, -⟩ := hs
        have := Nat.two_pow_pos e3
        show (1 : Int) ≤ r.1
        rw [g9]; omega
    · intro M' V' qs' h' a1 a2 a3 a4 a5 a6
      have kc2 := KC_tr kc1 a6
      refine v_iinc rfl rfl rfl (by omega) rfl ?_
      refine v_goto rfl ?_
      refine bal_out R qs' (us ++ [q.2.1]) h' (kk + 1) M' V' a1 a2 a3 a4 (by omega) (rowAt_fr R _ hr2 (fun j _ _ => kc2 97 j (by decide) (by decide) (by decide) (by omega))) (by rw [List.length_append, List.length_singleton]; omega) (by omega) hrl (by omega) (fun M2 V2 qs2 h2 kk2 c1 c2 c3 c4 c5 c6 => k M2 V2 qs2 h2 kk2 c1 c2 c3 (by simpa [trs] using c4) (by omega) (KC_tr kc2 c6))
theorem bal_fold {fr np : Int} : ∀ (qs : List zP) (us vs : List (List zN)) (x : Int) (τ : List zN) (I : List Int) (h : Int) (M V : zM), KS t h a op_ ne rl V M → RWS lo V0 V ((x, τ, I) :: qs.map Prod.snd) h → pcs M qs → STk qs us → τ = balT vs → 1 ≤ vs.length → geH (vs.length : Int) qs → qs.length ≤ 18 → h + (qs.length : Int) ≤ 1216 →
    (∀ M' V' x' I', KS t (h + (qs.length : Int)) a op_ ne rl V' M' → RWS lo V0 V' [(x', balT (us ++ vs), I')] (h + (qs.length : Int)) → KC M M' → Q (some (0, x')) M') →
    v_wp L (d + 2) 201 136 [(2, 77), (0, fr), (0, np), (0, x), (0, (qs.length : Int) - 1)] [] M Q
  | [], us, vs, x, τ, I, h, M, V, hK, hW, hp, hs, ht, hv, hg, hq, hh, k => by
    have hs : us = [] := hs
    subst hs ht
    refine v_load rfl rfl ⟨rfl, Nat.le_of_ble_eq_true rfl⟩ ?_
    refine v_iflt rfl (fun _ => ?_) (fun h => absurd h (by show ¬ (0 : Int) ≤ 0 - 1; decide))
    refine v_load rfl rfl ⟨rfl, Nat.le_of_ble_eq_true rfl⟩ ?_
    refine v_ret rfl rfl ?_
    exact k M V x I (by simpa using hK) (by simpa using hW) KC_rf
  | q :: qs, us, vs, x, τ, I, h, M, V, hK, hW, hp, hs, ht, hv, hg, hq, hh, k => by
    have hlen : (((q :: qs).length : Nat) : Int) = (qs.length : Int) + 1 := by simp
    have hlen' : (q :: qs).length = qs.length + 1 := rfl
    rw [hlen] at hh k ⊢
    obtain ⟨m3, m4, m5⟩ := hp
    obtain ⟨us', vs', e', g1, g2, g3, g4, g5, g6⟩ := hs
    have hg : (vs.length : Int) ≤ q.1 := hg
    have ek : (qs.length : Int) + 1 - 1 = (qs.length : Int) := by omega
    have wp := hW.1 (x, τ, I) (List.mem_cons_self ..)
    have wq := hW.1 q.2 (List.mem_cons_of_mem _ (List.mem_cons_self ..))
    have hi2 : ids ((x, τ, I) :: (q :: qs).map Prod.snd) = I ++ (q.2.2.2 ++ ids (qs.map Prod.snd)) := by simp [ids]
    have hnd : (q.2.2.2 ++ I).Nodup := by
      have := hW.2.1
      rw [hi2] at this
      have n1 := List.nodup_append.mp this
      have n2 := List.nodup_append.mp n1.2.1
      exact List.nodup_append.mpr ⟨n2.1, n1.1, fun i hi j hj e => n1.2.2 _ hj _ (List.mem_append_left _ hi) e.symm⟩
    have hin : ∀ i ∈ q.2.2.2 ++ I, i < h := fun i hi => (hW.2.2.1 i (by
      rw [hi2]
      rcases List.mem_append.mp hi with hi | hi
      · exact List.mem_append_right _ (List.mem_append_left _ hi)
      · exact List.mem_append_left _ hi)).2
    rw [ek]
    refine v_load rfl rfl ⟨rfl, Nat.le_of_ble_eq_true rfl⟩ ?_
    refine v_iflt rfl (fun h => absurd h (by omega)) (fun _ => ?_)
    refine v_load rfl rfl ⟨rfl, Nat.le_of_ble_eq_true rfl⟩ ?_
    refine v_load rfl rfl ⟨rfl, Nat.le_of_ble_eq_true rfl⟩ ?_
    refine v_getp rfl rfl rfl ?_
    refine v_load rfl rfl ⟨rfl, Nat.le_of_ble_eq_true rfl⟩ ?_
    refine v_ald9 rfl rfl ⟨by omega, by show _ < (20 : Int); omega⟩ ?_
    rw [m3]
    refine v_load rfl rfl ⟨rfl, Nat.le_of_ble_eq_true rfl⟩ ?_
    refine v_callr rfl ⟨Nat.le_of_ble_eq_true rfl, Nat.le_of_ble_eq_true rfl, rfl, Nat.le_of_ble_eq_true rfl, rfl⟩ ?_
    refine R_joins hK wq.1 wp.1 wq.2 wp.2 hnd hin (by omega) (fun M1 V1 k1 t1 s1 v1 b1 => ?_)
    have hW1 := RWS_join hW t1 s1 v1
    have hjt : mkN 1 (nFr q.2.2.1) (nUp τ) 0 [q.2.2.1, τ] = balT (vs' ++ vs) := by
      rw [g4, ht]
      exact (balT_join g2 hv (by omega)).symm
    rw [hjt] at hW1
    refine v_store rfl ⟨rfl, Nat.le_of_ble_eq_true rfl, Nat.le_of_ble_eq_true rfl, rfl⟩ rfl ?_
    refine v_iinc rfl rfl rfl (by omega) rfl ?_
    refine v_goto rfl ?_
    have hus : us ++ vs = us' ++ (vs' ++ vs) := by rw [g1, List.append_assoc]
    rw [hus] at k
    refine bal_fold qs us' (vs' ++ vs) h _ _ (h + 1) M1 V1 k1 hW1 (pcs_fr qs m5 (fun b j hb hj => b1 b j (by omega) (by omega))) g5 rfl (by rw [List.length_append]; omega) ?_ (by omega) (by omega) (fun M' V' x' I' a1 a2 a3 => ?_)
    · cases qs with
      | nil => trivial
      | cons r qs =>
        have h6 : q.1 < r.1 := g6
        obtain ⟨_, _, e3, -, -, g9, -⟩ := g5
        show (((vs' ++ vs).length : Nat) : Int) ≤ r.1
        rw [List.length_append]
        rw [g3, g9] at h6
        have hg2 : (vs.length : Int) ≤ q.1 := hg
        rw [g3] at hg2
        have := pow_step (e := e') (e' := e3) (by omega)
        rw [g9]
        omega
    · rw [show h + 1 + (qs.length : Int) = h + ((qs.length : Int) + 1) by omega] at a1 a2
      exact k M' V' x' I' a1 a2 (KC_tr (KC_KB b1) a3)
/-- balances: none, or one draft of them all -/
theorem R_balances {fr h : Int} {ks : List zK} {M V : zM} (hK : KS t h a op_ ne rl V M) (hW : RWS lo V0 V ks h) (hr : rowAt M fr ks) (er : rl = fr + (ks.length : Int)) (hf : 0 ≤ fr) (hrl : rl ≤ 300) (hh : h + (ks.length : Int) ≤ 1217) (k0 : ∀ M' V', ks = [] → KS t h a op_ ne rl V' M' → FR lo V0 V' → KC M M' → Q (some (0, -1)) M') (k1 : ∀ M' V' x I, ks ≠ [] → KS t (h + (ks.length : Int) - 1) a op_ ne rl V' M' → RES lo V0 (h + (ks.length : Int) - 1) V' x (balT (trs ks)) I → KC M M' → Q (some (0, x)) M') : v_call L (d + 2) 201 [(2, 77), (0, fr)] M Q := by
  refine v_in ?_
  refine v_push rfl ?_
  refine v_store rfl ⟨rfl, Nat.le_of_ble_eq_true rfl, Nat.le_of_ble_eq_true rfl, rfl⟩ rfl ?_
  refine v_load rfl rfl ⟨rfl, Nat.le_of_ble_eq_true rfl⟩ ?_
  refine v_store rfl ⟨rfl, Nat.le_of_ble_eq_true rfl, Nat.le_of_ble_eq_true rfl, rfl⟩ rfl ?_
  refine bal_out ks [] [] h fr M V hK (by simpa using hW) trivial rfl er hr (by simp; omega) hf hrl (by simpa using hh) (fun M' V' qs' h' kk' a1 a2 a3 a4 a5 a6 => ?_)
  cases qs' with
  | nil =>
    have hs : trs ks = [] := by simpa [STk] using a4
    have hk : ks = [] := by simpa [trs] using hs
    refine v_load rfl rfl ⟨rfl, Nat.le_of_ble_eq_true rfl⟩ ?_
    refine v_ifne rfl (fun h => absurd h (by show ¬ ¬ (0 : Int) = 0; decide)) (fun _ => ?_)
    refine v_push rfl ?_
    refine v_ret rfl rfl ?_
    have eh : h' = h := by rw [hk] at a5; simpa using a5
    rw [eh] at a1
    exact k0 M' V' hk a1 a2.2.2.2 a6
  | cons p qs =>
    have hfew := STk_len a4 (by simp [trs]; omega)
    have hlen : (((p :: qs).length : Nat) : Int) = (qs.length : Int) + 1 := by simp
    obtain ⟨us, vs, e, g1, g2, g3, g4, g5, g6⟩ := a4
    have hp := Nat.two_pow_pos e
    have hkn : ks ≠ [] := fun z => by
      rw [z] at g1
      have := congrArg List.length g1
      simp [trs] at this
      omega
    rw [hlen] at a5 ⊢
    obtain ⟨m3, m4, m5⟩ := a3
    simp only [List.length_cons] at hfew
    refine v_load rfl rfl ⟨rfl, Nat.le_of_ble_eq_true rfl⟩ ?_
    refine v_ifne rfl (fun _ => ?_) (fun h => absurd h (by omega))
    refine v_load rfl rfl ⟨rfl, Nat.le_of_ble_eq_true rfl⟩ ?_
    refine v_getp rfl rfl rfl ?_
    refine v_load rfl rfl ⟨rfl, Nat.le_of_ble_eq_true rfl⟩ ?_
    refine v_push rfl ?_
    refine v_sub rfl (by omega) ?_
    rw [show (qs.length : Int) + 1 - 1 = (qs.length : Int) by omega]
    refine v_ald9 rfl rfl ⟨by omega, by show _ < (20 : Int); omega⟩ ?_
    rw [m3]
    refine v_store rfl ⟨rfl, Nat.le_of_ble_eq_true rfl, Nat.le_of_ble_eq_true rfl, rfl⟩ rfl ?_
    refine v_load rfl rfl ⟨rfl, Nat.le_of_ble_eq_true rfl⟩ ?_
    refine v_push rfl ?_
    refine v_sub rfl (by omega) ?_
    rw [show (qs.length : Int) + 1 - 2 = (qs.length : Int) - 1 by omega]
    refine v_store rfl ⟨rfl, Nat.le_of_ble_eq_true rfl, Nat.le_of_ble_eq_true rfl, rfl⟩ rfl ?_
    refine bal_fold qs us vs p.2.1 p.2.2.1 p.2.2.2 h' M' V' a1 a2 m5 g5 g4 (by omega) ?_ (by omega) (by simp at a5; omega) (fun M2 V2 x2 I2 c1 c2 c3 => ?_)
    · cases qs with
      | nil => trivial
      | cons r qs =>
        have h6 : p.1 < r.1 := g6
        show (vs.length : Int) ≤ r.1
        omega
    · have ee : h' + (qs.length : Int) = h + (ks.length : Int) - 1 := by simp at a5; omega
      rw [ee] at c1 c2
      have hw := c2.1 _ (List.mem_cons_self ..)
      have g1 : trs ks = us ++ vs := by simpa using g1
      rw [← g1] at c2 hw
      exact k1 M2 V2 x2 I2 hkn c1 ⟨hw.1, fun i hi => c2.2.2.1 i (by simpa [ids] using hi), c2.2.2.2, hw.2⟩ (KC_tr a6 c3)
end RB2
