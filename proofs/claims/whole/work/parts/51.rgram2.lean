section RE
variable {L : Nat} {t : List Int} {f : Nat}
theorem RL_fin {L d : Nat} {Q : Option zV → zM → Prop} {t : List Int} {h1 h2 a g ne rl lo x : Int} {V0 V M0 M : zM} {τ : List zN} {I : List Int} (e : h2 = h1) (p : KS t h2 a g ne rl V M) (r : RES lo V0 h2 V x τ I) (e31 : M 77 31 = x) (hf : KF g rl M0 M) (k : ∀ M' V' x I, KS t h1 a g ne rl V' M' → RES lo V0 h1 V' x τ I → M' 77 31 = x → KF g rl M0 M' → RLP L d Q M') : RLP L d Q M := by
  subst e
  exact k M V x I p r e31 hf
theorem rl_6 (hE : RG L t f 4 4 1) (hL : RL L t f 6 3 2) : RL L t (f + 1) 6 3 2 := by
  intro ne a h g rl lo x V0 V M d Q le τ I a' w hp hK hR hlo hup hg h93 h95 hal hh hn0 hn1 hgc hr0 hra k
  have hT := tkOK_toks t
  have hl : ((toks t).length : Int) ≤ 300 := by have := hK.1.2.2.1; omega
  have ha0 := hK.2.2.2.2.2.1
  have hle : le ≠ [] := (tr_mem hR.1).2.2.2
  have hh0 := hK.2.2.2.1
  unfold P at hp
  simp only at hp
  by_cases hc : sgn (toks t) a = 43 ∨ sgn (toks t) a = 45
  · rw [if_pos hc] at hp
    have hlt := (sgn_lt (T := toks t) (i := a) (by omega)).2
    obtain ⟨e, e1, e2⟩ := ob_some hp
    obtain ⟨τe, q1, q2, q3, q4, q5, q6, q7⟩ := P_ok4 hT e1 (by omega) (by omega)
    obtain ⟨ea, eb⟩ := e
    have q1 : ea = [τe] := q1
    subst q1
    have q3 : a + 1 ≤ eb := q3
    have q4 : eb ≤ ((toks t).length : Int) := q4
    have e2 : P (toks t) f 6 ne (mkN 10 (nFr le) eb 0 ([le, lfN 16 a 1 (sgn (toks t) a)] ++ [τe])) eb = some ([τ], a') := e2
    have hlen : (mkN 10 (nFr le) eb 0 ([le, lfN 16 a 1 (sgn (toks t) a)] ++ [τe])).length = le.length + τe.length + 2 := by
      rw [mkN_len]; simp only [List.flatten_append, List.flatten_cons, List.flatten_nil, List.append_nil, List.length_append, lfN_len]; omega
    have hge := P_ge (toks t) _ _ _ _ _ _ (by decide) e2
    rw [show ([τ] : List (List zN)).flatten = τ by simp, hlen] at hge
    have hup2 : nUp (mkN 10 (nFr le) eb 0 ([le, lfN 16 a 1 (sgn (toks t) a)] ++ [τe])) = eb := mkN_up
    refine v_load rfl rfl ⟨rfl, Nat.le_of_ble_eq_true rfl⟩ ?_
    refine v_load rfl rfl ⟨rfl, Nat.le_of_ble_eq_true rfl⟩ ?_
    refine v_callr rfl ⟨Nat.le_of_ble_eq_true rfl, Nat.le_of_ble_eq_true rfl, rfl, Nat.le_of_ble_eq_true rfl, rfl⟩ ?_
    refine R_isSign3 hK ?_
    rw [if_pos hc]
    refine v_ifne rfl (fun _ => ?_) (fun h => absurd h (by decide))
    refine v_load rfl rfl ⟨rfl, Nat.le_of_ble_eq_true rfl⟩ ?_
    refine v_load rfl rfl ⟨rfl, Nat.le_of_ble_eq_true rfl⟩ ?_
    refine v_push rfl ?_
    refine v_ine rfl (fun h => absurd h (by decide)) (fun _ => ?_)
    refine v_push rfl ?_
    refine v_goto rfl ?_
    refine v_callr rfl ⟨Nat.le_of_ble_eq_true rfl, Nat.le_of_ble_eq_true rfl, rfl, Nat.le_of_ble_eq_true rfl, rfl⟩ ?_
    refine R_open (nFr le) hK (by omega) ⟨rfl, by decide⟩ (by omega) (fun M1 V1 k1 o1 b1 => ?_)
    refine v_store rfl ⟨rfl, Nat.le_of_ble_eq_true rfl, Nat.le_of_ble_eq_true rfl, rfl⟩ rfl ?_
    refine v_load rfl rfl ⟨rfl, Nat.le_of_ble_eq_true rfl⟩ ?_
    refine v_load rfl rfl ⟨rfl, Nat.le_of_ble_eq_true rfl⟩ ?_
    refine v_load rfl rfl ⟨rfl, Nat.le_of_ble_eq_true rfl⟩ ?_
    refine v_getp rfl rfl rfl ?_
    refine v_load rfl rfl ⟨rfl, Nat.le_of_ble_eq_true rfl⟩ ?_
    refine v_ald9 rfl rfl ⟨by omega, by show _ < (100 : Int); omega⟩ ?_
    rw [b1 95 g (by decide) (by omega), h95]
    refine v_callr rfl ⟨Nat.le_of_ble_eq_true rfl, Nat.le_of_ble_eq_true rfl, rfl, Nat.le_of_ble_eq_true rfl, rfl⟩ ?_
    refine R_addsL o1 hR hlo k1 (fun M2 V2 k2 o2 b2 => ?_)
    refine v_load rfl rfl ⟨rfl, Nat.le_of_ble_eq_true rfl⟩ ?_
    refine v_load rfl rfl ⟨rfl, Nat.le_of_ble_eq_true rfl⟩ ?_
    refine v_load rfl rfl ⟨rfl, Nat.le_of_ble_eq_true rfl⟩ ?_
    refine v_push rfl ?_
    refine v_callr rfl ⟨Nat.le_of_ble_eq_true rfl, Nat.le_of_ble_eq_true rfl, rfl, Nat.le_of_ble_eq_true rfl, rfl⟩ ?_
    refine R_leaf (sgn (toks t) a) k2 (by omega) (by omega) rfl (fun M3 V3 I3 k3 r3 b3 => ?_)
    refine v_callr rfl ⟨Nat.le_of_ble_eq_true rfl, Nat.le_of_ble_eq_true rfl, rfl, Nat.le_of_ble_eq_true rfl, rfl⟩ ?_
    refine R_adds o2 k3 (by omega) r3 (fun M4 V4 k4 o4 b4 => ?_)
    refine v_load rfl rfl ⟨rfl, Nat.le_of_ble_eq_true rfl⟩ ?_
    refine v_getp rfl rfl rfl ?_
    refine v_load rfl rfl ⟨rfl, Nat.le_of_ble_eq_true rfl⟩ ?_
    refine v_load rfl rfl ⟨rfl, Nat.le_of_ble_eq_true rfl⟩ ?_
    refine v_ast9 rfl rfl (by decide) ⟨by omega, by show _ < (100 : Int); omega⟩ ?_
    have b14 := KB_tr b1 (KB_tr b2 (KB_tr b3 b4))
    obtain ⟨-, ⟨-, -, p27, p29, p30⟩, -, -⟩ := id k4
    have k5 : KS t (h + 1 + 1) (a + 1) (g + 1) ne rl V4 (z_upd M4 95 g h) := KS_ch k4 (fun b j h1 _ => u_n1 (by omega)) (by rw [u_n1 (by decide)]; exact p27) (by rw [u_n1 (by decide)]; exact p29) (by rw [u_n1 (by decide)]; exact p30)
    refine v_load rfl rfl ⟨rfl, Nat.le_of_ble_eq_true rfl⟩ ?_
    refine v_load rfl rfl ⟨rfl, Nat.le_of_ble_eq_true rfl⟩ ?_
    refine v_push rfl ?_
    refine v_load rfl rfl ⟨rfl, Nat.le_of_ble_eq_true rfl⟩ ?_
    refine v_push rfl ?_
    refine v_add rfl (by omega) ?_
    refine v_push rfl ?_
    refine v_callr rfl ⟨Nat.le_of_ble_eq_true rfl, Nat.le_of_ble_eq_true rfl, rfl, Nat.le_of_ble_eq_true rfl, rfl⟩ ?_
    refine R_goes (f := g) k5 ⟨hg, by omega⟩ (fun M6 k6 fr6 st6 b6 => ?_)
    refine v_ret rfl rfl ?_
    have m93 : M6 93 g = 3 := by rw [b6 93 g (by omega) (fun _ => ⟨by omega, by omega⟩), u_n1 (by decide), b14 93 g (by decide) (by omega)]; exact h93
    have m95 : M6 95 g = h := by rw [b6 95 g (by omega) (fun _ => ⟨by omega, by omega⟩), u_eq]
    have f6 : KF g rl M M6 := KF_tr (KF_KB b14) (KF_tr (KF_u (by decide) (Int.le_refl _)) (KF_go b6) (Int.le_refl _) (Int.le_refl _)) (Int.le_refl _) (Int.le_refl _)
    refine ⟨rfl, hE ne (a + 1) _ (g + 1) rl V4 M6 d Q τe eb e1 k6 (by omega) fr6.1 fr6.2.1 (by omega) (by omega) (by omega) hn0 hn1 (by omega) hr0 (by omega) (fun M7 V7 x7 I7 k7 r7 e7 f7 => ?_)⟩
    have n93 : M7 93 g = 3 := (f7.2.2.1 93 g (by decide) (by decide) (by omega)).trans m93
    have n94 : M7 94 g = 2 := (f7.2.2.1 94 g (by decide) (by decide) (by omega)).trans st6
    have n95 : M7 95 g = h := (f7.2.2.1 95 g (by decide) (by decide) (by omega)).trans m95
    refine R_step3 k7 ⟨hg, by omega⟩ n93 ?_
    refine v_in ?_
    refine v_load rfl rfl ⟨rfl, Nat.le_of_ble_eq_true rfl⟩ ?_
    refine v_getp rfl rfl rfl ?_
    refine v_load rfl rfl ⟨rfl, Nat.le_of_ble_eq_true rfl⟩ ?_
    refine v_ald9 rfl rfl ⟨by omega, by show _ < (100 : Int); omega⟩ ?_
    rw [n93]
    refine v_store rfl ⟨rfl, Nat.le_of_ble_eq_true rfl, Nat.le_of_ble_eq_true rfl, rfl⟩ rfl ?_
    refine v_load rfl rfl ⟨rfl, Nat.le_of_ble_eq_true rfl⟩ ?_
    refine v_getp rfl rfl rfl ?_
    refine v_load rfl rfl ⟨rfl, Nat.le_of_ble_eq_true rfl⟩ ?_
    refine v_ald9 rfl rfl ⟨by omega, by show _ < (100 : Int); omega⟩ ?_
    rw [n94]
    refine v_ifne rfl (fun _ => ?_) (fun h => absurd h (by decide))
    refine v_load rfl rfl ⟨rfl, Nat.le_of_ble_eq_true rfl⟩ ?_
    refine v_getp rfl rfl rfl ?_
    refine v_load rfl rfl ⟨rfl, Nat.le_of_ble_eq_true rfl⟩ ?_
    refine v_ald9 rfl rfl ⟨by omega, by show _ < (100 : Int); omega⟩ ?_
    rw [n94]
    refine v_push rfl ?_
    refine v_ine rfl (fun _ => ?_) (fun h => absurd h (by decide))
    refine v_load rfl rfl ⟨rfl, Nat.le_of_ble_eq_true rfl⟩ ?_
    refine v_load rfl rfl ⟨rfl, Nat.le_of_ble_eq_true rfl⟩ ?_
    refine v_getp rfl rfl rfl ?_
    refine v_load rfl rfl ⟨rfl, Nat.le_of_ble_eq_true rfl⟩ ?_
    refine v_ald9 rfl rfl ⟨by omega, by show _ < (100 : Int); omega⟩ ?_
    rw [n95]
    refine v_load rfl rfl ⟨rfl, Nat.le_of_ble_eq_true rfl⟩ ?_
    refine v_getx rfl rfl (e7) ?_
    refine v_callr rfl ⟨Nat.le_of_ble_eq_true rfl, Nat.le_of_ble_eq_true rfl, rfl, Nat.le_of_ble_eq_true rfl, rfl⟩ ?_
    refine R_adds o4 k7 (by omega) r7 (fun M8 V8 k8 o8 b8 => ?_)
    refine hL ne eb _ g rl lo h V0 (z_upd V8 55 h eb) M8 d Q _ τ _ a' _ e2 (KS_55 k8) (g_shut o8) (by omega) hup2 hg ?_ ?_ q4 (by rw [hlen]; omega) hn0 hn1 hgc hr0 (by omega) (fun M9 V9 x9 I9 k9 r9 e9 f9 => ?_)
    · rw [b8 93 g (by decide) (by omega)]; exact n93
    · rw [b8 95 g (by decide) (by omega)]; exact n95
    · exact RL_fin (by rw [hlen]; omega) k9 r9 e9 (KF_tr f6 (KF_tr (KF_w f7 (by omega) (Int.le_refl _)) (KF_tr (KF_KB b8) f9 (Int.le_refl _) (Int.le_refl _)) (Int.le_refl _) (Int.le_refl _)) (Int.le_refl _) (Int.le_refl _)) k
  · rw [if_neg hc] at hp
    obtain ⟨rfl, rfl⟩ : le = τ ∧ a = a' := by simpa using hp
    refine v_load rfl rfl ⟨rfl, Nat.le_of_ble_eq_true rfl⟩ ?_
    refine v_load rfl rfl ⟨rfl, Nat.le_of_ble_eq_true rfl⟩ ?_
    refine v_callr rfl ⟨Nat.le_of_ble_eq_true rfl, Nat.le_of_ble_eq_true rfl, rfl, Nat.le_of_ble_eq_true rfl, rfl⟩ ?_
    refine R_isSign3 hK ?_
    rw [if_neg hc]
    refine v_ifne rfl (fun h => absurd h (by decide)) (fun _ => ?_)
    refine v_load rfl rfl ⟨rfl, Nat.le_of_ble_eq_true rfl⟩ ?_
    refine v_load rfl rfl ⟨rfl, Nat.le_of_ble_eq_true rfl⟩ ?_
    refine v_getp rfl rfl rfl ?_
    refine v_load rfl rfl ⟨rfl, Nat.le_of_ble_eq_true rfl⟩ ?_
    refine v_ald9 rfl rfl ⟨by omega, by show _ < (100 : Int); omega⟩ ?_
    rw [h95]
    refine v_callr rfl ⟨Nat.le_of_ble_eq_true rfl, Nat.le_of_ble_eq_true rfl, rfl, Nat.le_of_ble_eq_true rfl, rfl⟩ ?_
    refine R_ends hK ⟨by omega, by omega⟩ (fun M1 k1 e1 b1 => ?_)
    refine v_ret rfl rfl ?_
    rw [show g + 1 - 1 = g by omega] at k1
    exact ⟨rfl, RL_fin (by omega) k1 hR e1 (KF_en b1) k⟩
theorem rl_7 (hE : RG L t f 5 5 0) (hL : RL L t f 7 4 1) : RL L t (f + 1) 7 4 1 := by
  intro ne a h g rl lo x V0 V M d Q le τ I a' w hp hK hR hlo hup hg h93 h95 hal hh hn0 hn1 hgc hr0 hra k
  have hT := tkOK_toks t
  have hl : ((toks t).length : Int) ≤ 300 := by have := hK.1.2.2.1; omega
  have ha0 := hK.2.2.2.2.2.1
  have hle : le ≠ [] := (tr_mem hR.1).2.2.2
  have hh0 := hK.2.2.2.1
  unfold P at hp
  simp only at hp
  by_cases hc : sgn (toks t) a = 42 ∨ sgn (toks t) a = 47
  · rw [if_pos hc] at hp
    have hlt := (sgn_lt (T := toks t) (i := a) (by omega)).2
    obtain ⟨e, e1, e2⟩ := ob_some hp
    obtain ⟨τe, q1, q2, q3, q4, q5, q6, q7⟩ := P_ok5 hT e1 (by omega) (by omega)
    obtain ⟨ea, eb⟩ := e
    have q1 : ea = [τe] := q1
    subst q1
    have q3 : a + 1 ≤ eb := q3
    have q4 : eb ≤ ((toks t).length : Int) := q4
    have e2 : P (toks t) f 7 ne (mkN 11 (nFr le) eb 0 ([le, lfN 16 a 1 (sgn (toks t) a)] ++ [τe])) eb = some ([τ], a') := e2
    have hlen : (mkN 11 (nFr le) eb 0 ([le, lfN 16 a 1 (sgn (toks t) a)] ++ [τe])).length = le.length + τe.length + 2 := by
      rw [mkN_len]; simp only [List.flatten_append, List.flatten_cons, List.flatten_nil, List.append_nil, List.length_append, lfN_len]; omega
    have hge := P_ge (toks t) _ _ _ _ _ _ (by decide) e2
    rw [show ([τ] : List (List zN)).flatten = τ by simp, hlen] at hge
    have hup2 : nUp (mkN 11 (nFr le) eb 0 ([le, lfN 16 a 1 (sgn (toks t) a)] ++ [τe])) = eb := mkN_up
    refine v_load rfl rfl ⟨rfl, Nat.le_of_ble_eq_true rfl⟩ ?_
    refine v_load rfl rfl ⟨rfl, Nat.le_of_ble_eq_true rfl⟩ ?_
    refine v_callr rfl ⟨Nat.le_of_ble_eq_true rfl, Nat.le_of_ble_eq_true rfl, rfl, Nat.le_of_ble_eq_true rfl, rfl⟩ ?_
    refine R_isSign4 hK ?_
    rw [if_pos hc]
    refine v_ifne rfl (fun _ => ?_) (fun h => absurd h (by decide))
    refine v_load rfl rfl ⟨rfl, Nat.le_of_ble_eq_true rfl⟩ ?_
    refine v_load rfl rfl ⟨rfl, Nat.le_of_ble_eq_true rfl⟩ ?_
    refine v_push rfl ?_
    refine v_ine rfl (fun _ => ?_) (fun h => absurd h (by decide))
    refine v_push rfl ?_
    refine v_callr rfl ⟨Nat.le_of_ble_eq_true rfl, Nat.le_of_ble_eq_true rfl, rfl, Nat.le_of_ble_eq_true rfl, rfl⟩ ?_
    refine R_open (nFr le) hK (by omega) ⟨rfl, by decide⟩ (by omega) (fun M1 V1 k1 o1 b1 => ?_)
    refine v_store rfl ⟨rfl, Nat.le_of_ble_eq_true rfl, Nat.le_of_ble_eq_true rfl, rfl⟩ rfl ?_
    refine v_load rfl rfl ⟨rfl, Nat.le_of_ble_eq_true rfl⟩ ?_
    refine v_load rfl rfl ⟨rfl, Nat.le_of_ble_eq_true rfl⟩ ?_
    refine v_load rfl rfl ⟨rfl, Nat.le_of_ble_eq_true rfl⟩ ?_
    refine v_getp rfl rfl rfl ?_
    refine v_load rfl rfl ⟨rfl, Nat.le_of_ble_eq_true rfl⟩ ?_
    refine v_ald9 rfl rfl ⟨by omega, by show _ < (100 : Int); omega⟩ ?_
    rw [b1 95 g (by decide) (by omega), h95]
    refine v_callr rfl ⟨Nat.le_of_ble_eq_true rfl, Nat.le_of_ble_eq_true rfl, rfl, Nat.le_of_ble_eq_true rfl, rfl⟩ ?_
    refine R_addsL o1 hR hlo k1 (fun M2 V2 k2 o2 b2 => ?_)
    refine v_load rfl rfl ⟨rfl, Nat.le_of_ble_eq_true rfl⟩ ?_
    refine v_load rfl rfl ⟨rfl, Nat.le_of_ble_eq_true rfl⟩ ?_
    refine v_load rfl rfl ⟨rfl, Nat.le_of_ble_eq_true rfl⟩ ?_
    refine v_push rfl ?_
    refine v_callr rfl ⟨Nat.le_of_ble_eq_true rfl, Nat.le_of_ble_eq_true rfl, rfl, Nat.le_of_ble_eq_true rfl, rfl⟩ ?_
    refine R_leaf (sgn (toks t) a) k2 (by omega) (by omega) rfl (fun M3 V3 I3 k3 r3 b3 => ?_)
    refine v_callr rfl ⟨Nat.le_of_ble_eq_true rfl, Nat.le_of_ble_eq_true rfl, rfl, Nat.le_of_ble_eq_true rfl, rfl⟩ ?_
    refine R_adds o2 k3 (by omega) r3 (fun M4 V4 k4 o4 b4 => ?_)
    refine v_load rfl rfl ⟨rfl, Nat.le_of_ble_eq_true rfl⟩ ?_
    refine v_getp rfl rfl rfl ?_
    refine v_load rfl rfl ⟨rfl, Nat.le_of_ble_eq_true rfl⟩ ?_
    refine v_load rfl rfl ⟨rfl, Nat.le_of_ble_eq_true rfl⟩ ?_
    refine v_ast9 rfl rfl (by decide) ⟨by omega, by show _ < (100 : Int); omega⟩ ?_
    have b14 := KB_tr b1 (KB_tr b2 (KB_tr b3 b4))
    obtain ⟨-, ⟨-, -, p27, p29, p30⟩, -, -⟩ := id k4
    have k5 : KS t (h + 1 + 1) (a + 1) (g + 1) ne rl V4 (z_upd M4 95 g h) := KS_ch k4 (fun b j h1 _ => u_n1 (by omega)) (by rw [u_n1 (by decide)]; exact p27) (by rw [u_n1 (by decide)]; exact p29) (by rw [u_n1 (by decide)]; exact p30)
    refine v_load rfl rfl ⟨rfl, Nat.le_of_ble_eq_true rfl⟩ ?_
    refine v_load rfl rfl ⟨rfl, Nat.le_of_ble_eq_true rfl⟩ ?_
    refine v_push rfl ?_
    refine v_load rfl rfl ⟨rfl, Nat.le_of_ble_eq_true rfl⟩ ?_
    refine v_push rfl ?_
    refine v_add rfl (by omega) ?_
    refine v_push rfl ?_
    refine v_callr rfl ⟨Nat.le_of_ble_eq_true rfl, Nat.le_of_ble_eq_true rfl, rfl, Nat.le_of_ble_eq_true rfl, rfl⟩ ?_
    refine R_goes (f := g) k5 ⟨hg, by omega⟩ (fun M6 k6 fr6 st6 b6 => ?_)
    refine v_ret rfl rfl ?_
    have m93 : M6 93 g = 4 := by rw [b6 93 g (by omega) (fun _ => ⟨by omega, by omega⟩), u_n1 (by decide), b14 93 g (by decide) (by omega)]; exact h93
    have m95 : M6 95 g = h := by rw [b6 95 g (by omega) (fun _ => ⟨by omega, by omega⟩), u_eq]
    have f6 : KF g rl M M6 := KF_tr (KF_KB b14) (KF_tr (KF_u (by decide) (Int.le_refl _)) (KF_go b6) (Int.le_refl _) (Int.le_refl _)) (Int.le_refl _) (Int.le_refl _)
    refine ⟨rfl, hE ne (a + 1) _ (g + 1) rl V4 M6 d Q τe eb e1 k6 (by omega) fr6.1 fr6.2.1 (by omega) (by omega) (by omega) hn0 hn1 (by omega) hr0 (by omega) (fun M7 V7 x7 I7 k7 r7 e7 f7 => ?_)⟩
    have n93 : M7 93 g = 4 := (f7.2.2.1 93 g (by decide) (by decide) (by omega)).trans m93
    have n94 : M7 94 g = 2 := (f7.2.2.1 94 g (by decide) (by decide) (by omega)).trans st6
    have n95 : M7 95 g = h := (f7.2.2.1 95 g (by decide) (by decide) (by omega)).trans m95
    refine R_step4 k7 ⟨hg, by omega⟩ n93 ?_
    refine v_in ?_
    refine v_load rfl rfl ⟨rfl, Nat.le_of_ble_eq_true rfl⟩ ?_
    refine v_getp rfl rfl rfl ?_
    refine v_load rfl rfl ⟨rfl, Nat.le_of_ble_eq_true rfl⟩ ?_
    refine v_ald9 rfl rfl ⟨by omega, by show _ < (100 : Int); omega⟩ ?_
    rw [n93]
    refine v_store rfl ⟨rfl, Nat.le_of_ble_eq_true rfl, Nat.le_of_ble_eq_true rfl, rfl⟩ rfl ?_
    refine v_load rfl rfl ⟨rfl, Nat.le_of_ble_eq_true rfl⟩ ?_
    refine v_getp rfl rfl rfl ?_
    refine v_load rfl rfl ⟨rfl, Nat.le_of_ble_eq_true rfl⟩ ?_
    refine v_ald9 rfl rfl ⟨by omega, by show _ < (100 : Int); omega⟩ ?_
    rw [n94]
    refine v_ifne rfl (fun _ => ?_) (fun h => absurd h (by decide))
    refine v_load rfl rfl ⟨rfl, Nat.le_of_ble_eq_true rfl⟩ ?_
    refine v_getp rfl rfl rfl ?_
    refine v_load rfl rfl ⟨rfl, Nat.le_of_ble_eq_true rfl⟩ ?_
    refine v_ald9 rfl rfl ⟨by omega, by show _ < (100 : Int); omega⟩ ?_
    rw [n94]
    refine v_push rfl ?_
    refine v_ine rfl (fun _ => ?_) (fun h => absurd h (by decide))
    refine v_load rfl rfl ⟨rfl, Nat.le_of_ble_eq_true rfl⟩ ?_
    refine v_load rfl rfl ⟨rfl, Nat.le_of_ble_eq_true rfl⟩ ?_
    refine v_getp rfl rfl rfl ?_
    refine v_load rfl rfl ⟨rfl, Nat.le_of_ble_eq_true rfl⟩ ?_
    refine v_ald9 rfl rfl ⟨by omega, by show _ < (100 : Int); omega⟩ ?_
    rw [n95]
    refine v_load rfl rfl ⟨rfl, Nat.le_of_ble_eq_true rfl⟩ ?_
    refine v_getx rfl rfl (e7) ?_
    refine v_callr rfl ⟨Nat.le_of_ble_eq_true rfl, Nat.le_of_ble_eq_true rfl, rfl, Nat.le_of_ble_eq_true rfl, rfl⟩ ?_
    refine R_adds o4 k7 (by omega) r7 (fun M8 V8 k8 o8 b8 => ?_)
    refine hL ne eb _ g rl lo h V0 (z_upd V8 55 h eb) M8 d Q _ τ _ a' _ e2 (KS_55 k8) (g_shut o8) (by omega) hup2 hg ?_ ?_ q4 (by rw [hlen]; omega) hn0 hn1 hgc hr0 (by omega) (fun M9 V9 x9 I9 k9 r9 e9 f9 => ?_)
    · rw [b8 93 g (by decide) (by omega)]; exact n93
    · rw [b8 95 g (by decide) (by omega)]; exact n95
    · exact RL_fin (by rw [hlen]; omega) k9 r9 e9 (KF_tr f6 (KF_tr (KF_w f7 (by omega) (Int.le_refl _)) (KF_tr (KF_KB b8) f9 (Int.le_refl _) (Int.le_refl _)) (Int.le_refl _) (Int.le_refl _)) (Int.le_refl _) (Int.le_refl _)) k
  · rw [if_neg hc] at hp
    obtain ⟨rfl, rfl⟩ : le = τ ∧ a = a' := by simpa using hp
    refine v_load rfl rfl ⟨rfl, Nat.le_of_ble_eq_true rfl⟩ ?_
    refine v_load rfl rfl ⟨rfl, Nat.le_of_ble_eq_true rfl⟩ ?_
    refine v_callr rfl ⟨Nat.le_of_ble_eq_true rfl, Nat.le_of_ble_eq_true rfl, rfl, Nat.le_of_ble_eq_true rfl, rfl⟩ ?_
    refine R_isSign4 hK ?_
    rw [if_neg hc]
    refine v_ifne rfl (fun h => absurd h (by decide)) (fun _ => ?_)
    refine v_load rfl rfl ⟨rfl, Nat.le_of_ble_eq_true rfl⟩ ?_
    refine v_load rfl rfl ⟨rfl, Nat.le_of_ble_eq_true rfl⟩ ?_
    refine v_getp rfl rfl rfl ?_
    refine v_load rfl rfl ⟨rfl, Nat.le_of_ble_eq_true rfl⟩ ?_
    refine v_ald9 rfl rfl ⟨by omega, by show _ < (100 : Int); omega⟩ ?_
    rw [h95]
    refine v_callr rfl ⟨Nat.le_of_ble_eq_true rfl, Nat.le_of_ble_eq_true rfl, rfl, Nat.le_of_ble_eq_true rfl, rfl⟩ ?_
    refine R_ends hK ⟨by omega, by omega⟩ (fun M1 k1 e1 b1 => ?_)
    refine v_ret rfl rfl ?_
    rw [show g + 1 - 1 = g by omega] at k1
    exact ⟨rfl, RL_fin (by omega) k1 hR e1 (KF_en b1) k⟩
theorem rg_3 (hE : RG L t f 4 4 1) (hL : RL L t f 6 3 2) : RG L t (f + 1) 3 3 2 := by
  intro ne a h g rl V M d Q τ a' hp hK hg h93 h94 hal _ hh hn0 hn1 hgc hr0 hra k
  have hT := tkOK_toks t
  have ha0 := hK.2.2.2.2.2.1
  unfold P at hp
  simp only at hp
  obtain ⟨e, e1, e2⟩ := ob_some hp
  obtain ⟨τe, q1, q2, q3, q4, q5, q6, q7⟩ := P_ok4 hT e1 (by omega) (by omega)
  obtain ⟨ea, eb⟩ := e
  have q1 : ea = [τe] := q1
  subst q1
  have q4 : eb ≤ ((toks t).length : Int) := q4
  have q3 : a ≤ eb := q3
  have e2 : P (toks t) f 6 ne τe eb = some ([τ], a') := by simpa using e2
  have hge := P_ge (toks t) _ _ _ _ _ _ (by decide) e2
  rw [show ([τ] : List (List zN)).flatten = τ by simp] at hge
  refine R_step3 hK ⟨hg, by omega⟩ h93 ?_
  refine v_in ?_
  refine v_load rfl rfl ⟨rfl, Nat.le_of_ble_eq_true rfl⟩ ?_
  refine v_getp rfl rfl rfl ?_
  refine v_load rfl rfl ⟨rfl, Nat.le_of_ble_eq_true rfl⟩ ?_
  refine v_ald9 rfl rfl ⟨by omega, by show _ < (100 : Int); omega⟩ ?_
  rw [h93]
  refine v_store rfl ⟨rfl, Nat.le_of_ble_eq_true rfl, Nat.le_of_ble_eq_true rfl, rfl⟩ rfl ?_
  refine v_load rfl rfl ⟨rfl, Nat.le_of_ble_eq_true rfl⟩ ?_
  refine v_getp rfl rfl rfl ?_
  refine v_load rfl rfl ⟨rfl, Nat.le_of_ble_eq_true rfl⟩ ?_
  refine v_ald9 rfl rfl ⟨by omega, by show _ < (100 : Int); omega⟩ ?_
  rw [h94]
  refine v_ifne rfl (fun h => absurd h (by decide)) (fun _ => ?_)
  refine v_load rfl rfl ⟨rfl, Nat.le_of_ble_eq_true rfl⟩ ?_
  refine v_load rfl rfl ⟨rfl, Nat.le_of_ble_eq_true rfl⟩ ?_
  refine v_push rfl ?_
  refine v_load rfl rfl ⟨rfl, Nat.le_of_ble_eq_true rfl⟩ ?_
  refine v_push rfl ?_
  refine v_add rfl (by omega) ?_
  refine v_push rfl ?_
  refine v_callr rfl ⟨Nat.le_of_ble_eq_true rfl, Nat.le_of_ble_eq_true rfl, rfl, Nat.le_of_ble_eq_true rfl, rfl⟩ ?_
  refine R_goes (f := g) hK ⟨hg, by omega⟩ (fun M6 k6 fr6 st6 b6 => ?_)
  refine v_ret rfl rfl ?_
  have m93 : M6 93 g = 3 := by rw [b6 93 g (by omega) (fun _ => ⟨by omega, by omega⟩)]; exact h93
  refine ⟨rfl, hE ne a _ (g + 1) rl V M6 d Q τe eb e1 k6 (by omega) fr6.1 fr6.2.1 (by omega) (by omega) (by omega) hn0 hn1 (by omega) hr0 (by omega) (fun M7 V7 x7 I7 k7 r7 e7 f7 => ?_)⟩
  have n93 : M7 93 g = 3 := (f7.2.2.1 93 g (by decide) (by decide) (by omega)).trans m93
  have n94 : M7 94 g = 1 := (f7.2.2.1 94 g (by decide) (by decide) (by omega)).trans st6
  refine R_step3 k7 ⟨hg, by omega⟩ n93 ?_
  refine v_in ?_
  refine v_load rfl rfl ⟨rfl, Nat.le_of_ble_eq_true rfl⟩ ?_
  refine v_getp rfl rfl rfl ?_
  refine v_load rfl rfl ⟨rfl, Nat.le_of_ble_eq_true rfl⟩ ?_
  refine v_ald9 rfl rfl ⟨by omega, by show _ < (100 : Int); omega⟩ ?_
  rw [n93]
  refine v_store rfl ⟨rfl, Nat.le_of_ble_eq_true rfl, Nat.le_of_ble_eq_true rfl, rfl⟩ rfl ?_
  refine v_load rfl rfl ⟨rfl, Nat.le_of_ble_eq_true rfl⟩ ?_
  refine v_getp rfl rfl rfl ?_
  refine v_load rfl rfl ⟨rfl, Nat.le_of_ble_eq_true rfl⟩ ?_
  refine v_ald9 rfl rfl ⟨by omega, by show _ < (100 : Int); omega⟩ ?_
  rw [n94]
  refine v_ifne rfl (fun _ => ?_) (fun h => absurd h (by decide))
  refine v_load rfl rfl ⟨rfl, Nat.le_of_ble_eq_true rfl⟩ ?_
  refine v_getp rfl rfl rfl ?_
  refine v_load rfl rfl ⟨rfl, Nat.le_of_ble_eq_true rfl⟩ ?_
  refine v_ald9 rfl rfl ⟨by omega, by show _ < (100 : Int); omega⟩ ?_
  rw [n94]
  refine v_push rfl ?_
  refine v_ine rfl (fun h => absurd h (by decide)) (fun _ => ?_)
  refine v_load rfl rfl ⟨rfl, Nat.le_of_ble_eq_true rfl⟩ ?_
  refine v_getp rfl rfl rfl ?_
  refine v_load rfl rfl ⟨rfl, Nat.le_of_ble_eq_true rfl⟩ ?_
  refine v_load rfl rfl ⟨rfl, Nat.le_of_ble_eq_true rfl⟩ ?_
  refine v_getx rfl rfl (e7) ?_
  refine v_ast9 rfl rfl (by decide) ⟨by omega, by show _ < (100 : Int); omega⟩ ?_
  refine v_goto rfl ?_
  obtain ⟨-, ⟨-, -, p27, p29, p30⟩, -, -⟩ := id k7
  have k8 : KS t (h + (τe.length : Int)) eb (g + 1) ne rl V7 (z_upd M7 95 g x7) := KS_ch k7 (fun b j h1 _ => u_n1 (by omega)) (by rw [u_n1 (by decide)]; exact p27) (by rw [u_n1 (by decide)]; exact p29) (by rw [u_n1 (by decide)]; exact p30)
  refine hL ne eb _ g rl h x7 V V7 _ d Q τe τ _ a' _ e2 k8 r7 (by omega) q6 hg ?_ u_eq q4 (by omega) hn0 hn1 hgc hr0 (by omega) (fun M9 V9 x9 I9 k9 r9 e9 f9 => ?_)
  · rw [u_n1 (by decide)]; exact n93
  · exact RL_fin (by omega) k9 r9 e9 (KF_tr (KF_go b6) (KF_tr (KF_w f7 (by omega) (Int.le_refl _)) (KF_tr (KF_u (by decide) (Int.le_refl _)) f9 (Int.le_refl _) (Int.le_refl _)) (Int.le_refl _) (Int.le_refl _)) (Int.le_refl _) (Int.le_refl _)) k
theorem rg_4 (hE : RG L t f 5 5 0) (hL : RL L t f 7 4 1) : RG L t (f + 1) 4 4 1 := by
  intro ne a h g rl V M d Q τ a' hp hK hg h93 h94 hal _ hh hn0 hn1 hgc hr0 hra k
  have hT := tkOK_toks t
  have ha0 := hK.2.2.2.2.2.1
  unfold P at hp
  simp only at hp
  obtain ⟨e, e1, e2⟩ := ob_some hp
  obtain ⟨τe, q1, q2, q3, q4, q5, q6, q7⟩ := P_ok5 hT e1 (by omega) (by omega)
  obtain ⟨ea, eb⟩ := e
  have q1 : ea = [τe] := q1
  subst q1
  have q4 : eb ≤ ((toks t).length : Int) := q4
  have q3 : a ≤ eb := q3
  have e2 : P (toks t) f 7 ne τe eb = some ([τ], a') := by simpa using e2
  have hge := P_ge (toks t) _ _ _ _ _ _ (by decide) e2
  rw [show ([τ] : List (List zN)).flatten = τ by simp] at hge
  refine R_step4 hK ⟨hg, by omega⟩ h93 ?_
  refine v_in ?_
  refine v_load rfl rfl ⟨rfl, Nat.le_of_ble_eq_true rfl⟩ ?_
  refine v_getp rfl rfl rfl ?_
  refine v_load rfl rfl ⟨rfl, Nat.le_of_ble_eq_true rfl⟩ ?_
  refine v_ald9 rfl rfl ⟨by omega, by show _ < (100 : Int); omega⟩ ?_
  rw [h93]
  refine v_store rfl ⟨rfl, Nat.le_of_ble_eq_true rfl, Nat.le_of_ble_eq_true rfl, rfl⟩ rfl ?_
  refine v_load rfl rfl ⟨rfl, Nat.le_of_ble_eq_true rfl⟩ ?_
  refine v_getp rfl rfl rfl ?_
  refine v_load rfl rfl ⟨rfl, Nat.le_of_ble_eq_true rfl⟩ ?_
  refine v_ald9 rfl rfl ⟨by omega, by show _ < (100 : Int); omega⟩ ?_
  rw [h94]
  refine v_ifne rfl (fun h => absurd h (by decide)) (fun _ => ?_)
  refine v_load rfl rfl ⟨rfl, Nat.le_of_ble_eq_true rfl⟩ ?_
  refine v_load rfl rfl ⟨rfl, Nat.le_of_ble_eq_true rfl⟩ ?_
  refine v_push rfl ?_
  refine v_load rfl rfl ⟨rfl, Nat.le_of_ble_eq_true rfl⟩ ?_
  refine v_push rfl ?_
  refine v_add rfl (by omega) ?_
  refine v_push rfl ?_
  refine v_callr rfl ⟨Nat.le_of_ble_eq_true rfl, Nat.le_of_ble_eq_true rfl, rfl, Nat.le_of_ble_eq_true rfl, rfl⟩ ?_
  refine R_goes (f := g) hK ⟨hg, by omega⟩ (fun M6 k6 fr6 st6 b6 => ?_)
  refine v_ret rfl rfl ?_
  have m93 : M6 93 g = 4 := by rw [b6 93 g (by omega) (fun _ => ⟨by omega, by omega⟩)]; exact h93
  refine ⟨rfl, hE ne a _ (g + 1) rl V M6 d Q τe eb e1 k6 (by omega) fr6.1 fr6.2.1 (by omega) (by omega) (by omega) hn0 hn1 (by omega) hr0 (by omega) (fun M7 V7 x7 I7 k7 r7 e7 f7 => ?_)⟩
  have n93 : M7 93 g = 4 := (f7.2.2.1 93 g (by decide) (by decide) (by omega)).trans m93
  have n94 : M7 94 g = 1 := (f7.2.2.1 94 g (by decide) (by decide) (by omega)).trans st6
  refine R_step4 k7 ⟨hg, by omega⟩ n93 ?_
  refine v_in ?_
  refine v_load rfl rfl ⟨rfl, Nat.le_of_ble_eq_true rfl⟩ ?_
  refine v_getp rfl rfl rfl ?_
  refine v_load rfl rfl ⟨rfl, Nat.le_of_ble_eq_true rfl⟩ ?_
  refine v_ald9 rfl rfl ⟨by omega, by show _ < (100 : Int); omega⟩ ?_
  rw [n93]
  refine v_store rfl ⟨rfl, Nat.le_of_ble_eq_true rfl, Nat.le_of_ble_eq_true rfl, rfl⟩ rfl ?_
  refine v_load rfl rfl ⟨rfl, Nat.le_of_ble_eq_true rfl⟩ ?_
  refine v_getp rfl rfl rfl ?_
  refine v_load rfl rfl ⟨rfl, Nat.le_of_ble_eq_true rfl⟩ ?_
  refine v_ald9 rfl rfl ⟨by omega, by show _ < (100 : Int); omega⟩ ?_
  rw [n94]
  refine v_ifne rfl (fun _ => ?_) (fun h => absurd h (by decide))
  refine v_load rfl rfl ⟨rfl, Nat.le_of_ble_eq_true rfl⟩ ?_
  refine v_getp rfl rfl rfl ?_
  refine v_load rfl rfl ⟨rfl, Nat.le_of_ble_eq_true rfl⟩ ?_
  refine v_ald9 rfl rfl ⟨by omega, by show _ < (100 : Int); omega⟩ ?_
  rw [n94]
  refine v_push rfl ?_
  refine v_ine rfl (fun h => absurd h (by decide)) (fun _ => ?_)
  refine v_load rfl rfl ⟨rfl, Nat.le_of_ble_eq_true rfl⟩ ?_
  refine v_getp rfl rfl rfl ?_
  refine v_load rfl rfl ⟨rfl, Nat.le_of_ble_eq_true rfl⟩ ?_
  refine v_load rfl rfl ⟨rfl, Nat.le_of_ble_eq_true rfl⟩ ?_
  refine v_getx rfl rfl (e7) ?_
  refine v_ast9 rfl rfl (by decide) ⟨by omega, by show _ < (100 : Int); omega⟩ ?_
  refine v_goto rfl ?_
  obtain ⟨-, ⟨-, -, p27, p29, p30⟩, -, -⟩ := id k7
  have k8 : KS t (h + (τe.length : Int)) eb (g + 1) ne rl V7 (z_upd M7 95 g x7) := KS_ch k7 (fun b j h1 _ => u_n1 (by omega)) (by rw [u_n1 (by decide)]; exact p27) (by rw [u_n1 (by decide)]; exact p29) (by rw [u_n1 (by decide)]; exact p30)
  refine hL ne eb _ g rl h x7 V V7 _ d Q τe τ _ a' _ e2 k8 r7 (by omega) q6 hg ?_ u_eq q4 (by omega) hn0 hn1 hgc hr0 (by omega) (fun M9 V9 x9 I9 k9 r9 e9 f9 => ?_)
  · rw [u_n1 (by decide)]; exact n93
  · exact RL_fin (by omega) k9 r9 e9 (KF_tr (KF_go b6) (KF_tr (KF_w f7 (by omega) (Int.le_refl _)) (KF_tr (KF_u (by decide) (Int.le_refl _)) f9 (Int.le_refl _) (Int.le_refl _)) (Int.le_refl _) (Int.le_refl _)) (Int.le_refl _) (Int.le_refl _)) k
theorem rg_5 (hE : RG L t f 3 3 2) : RG L t (f + 1) 5 5 0 := by
  intro ne a h g rl V M d Q τ a' hp hK hg h93 h94 hal _ hh hn0 hn1 hgc hr0 hra k
  have hT := tkOK_toks t
  obtain ⟨⟨hX, hR⟩, ⟨p1, p2, p3, p4, p5⟩, -, r1, r2, r3, r4⟩ := id hK
  have hl : ((toks t).length : Int) ≤ 300 := by have := hR.2.1; omega
  have p6 := hR.1
  have fin : ∀ (M1 : zM) (V1 : zM) (I : List Int) (a1 : Int) (M2 : zM), KS t (h + 1) a1 (g + 1) ne rl V1 M1 → RES h V (h + 1) V1 h τ I → KB M M1 → a1 = a' → τ.length = 1 → KS t (h + 1) a1 (g + 1 - 1) ne rl V1 M2 → M2 77 31 = h → (∀ b j, (b = 77 → j ≠ 27 ∧ j ≠ 31) → M2 b j = M1 b j) → RCT L d Q none M2 := by
    intro M1 V1 I a1 M2 k1 r1 b1 ea et k2 e2 b2
    subst ea
    rw [show g + 1 - 1 = g by omega] at k2
    exact ⟨rfl, RL_fin (by omega) k2 r1 e2 (KF_tr (KF_KB b1) (KF_en b2) (Int.le_refl _) (Int.le_refl _)) k⟩
  have hs1 := srt_iff (t := t) (so := 1) r3 (by decide)
  have hs2 := srt_iff (t := t) (so := 2) r3 (by decide)
  unfold P at hp
  simp only at hp
  refine R_step5 hK ⟨hg, by omega⟩ h93 ?_
  refine v_in ?_
  by_cases c1 : srt (toks t) a = 0 ∧ sgn (toks t) a = 0
  · rw [if_pos c1] at hp
    obtain ⟨rfl, rfl⟩ : lfN 12 a 1 0 = τ ∧ a + 1 = a' := by simpa using hp
    rw [lfN_len] at hh
    refine v_load rfl rfl ⟨rfl, Nat.le_of_ble_eq_true rfl⟩ ?_
    refine v_getp rfl rfl rfl ?_
    refine v_load rfl rfl ⟨rfl, Nat.le_of_ble_eq_true rfl⟩ ?_
    refine v_ald9 rfl rfl ⟨by omega, by show _ < (100 : Int); omega⟩ ?_
    rw [h94]
    refine v_push rfl ?_
    refine v_ine rfl (fun _ => ?_) (fun h => absurd h (by decide))
    refine v_load rfl rfl ⟨rfl, Nat.le_of_ble_eq_true rfl⟩ ?_
    refine v_callr rfl ⟨Nat.le_of_ble_eq_true rfl, Nat.le_of_ble_eq_true rfl, rfl, Nat.le_of_ble_eq_true rfl, rfl⟩ ?_
    refine R_isWord hK ?_
    rw [if_pos c1.1]
    refine v_ifeq rfl (fun h => absurd h (by decide)) (fun _ => ?_)
    refine v_load rfl rfl ⟨rfl, Nat.le_of_ble_eq_true rfl⟩ ?_
    refine v_callr rfl ⟨Nat.le_of_ble_eq_true rfl, Nat.le_of_ble_eq_true rfl, rfl, Nat.le_of_ble_eq_true rfl, rfl⟩ ?_
    refine R_keyNext hK ?_
    rw [if_pos c1.1, c1.2]
    refine v_ifne rfl (fun h => absurd h (by decide)) (fun _ => ?_)
    refine v_load rfl rfl ⟨rfl, Nat.le_of_ble_eq_true rfl⟩ ?_
    refine v_load rfl rfl ⟨rfl, Nat.le_of_ble_eq_true rfl⟩ ?_
    refine v_push rfl ?_
    refine v_callr rfl ⟨Nat.le_of_ble_eq_true rfl, Nat.le_of_ble_eq_true rfl, rfl, Nat.le_of_ble_eq_true rfl, rfl⟩ ?_
    refine R_leaf 0 hK (by omega) (by omega) rfl (fun M1 V1 I k1 s1 b1 => ?_)
    refine v_callr rfl ⟨Nat.le_of_ble_eq_true rfl, Nat.le_of_ble_eq_true rfl, rfl, Nat.le_of_ble_eq_true rfl, rfl⟩ ?_
    refine R_ends k1 ⟨by omega, by omega⟩ (fun M2 k2 e2 b2 => ?_)
    refine v_goto rfl ?_
    refine v_ret rfl rfl ?_
    exact fin M1 V1 I _ M2 k1 s1 b1 rfl lfN_len k2 e2 b2
  rw [if_neg c1] at hp
  have to71 : v_wp L (d + 7) 213 71 (z_ent (z_ml 213) [(2, 77), (0, g)]) [] M (RCT L d Q) → v_wp L (d + 7) 213 0 (z_ent (z_ml 213) [(2, 77), (0, g)]) [] M (RCT L d Q) := by
    intro k71
    refine v_load rfl rfl ⟨rfl, Nat.le_of_ble_eq_true rfl⟩ ?_
    refine v_getp rfl rfl rfl ?_
    refine v_load rfl rfl ⟨rfl, Nat.le_of_ble_eq_true rfl⟩ ?_
    refine v_ald9 rfl rfl ⟨by omega, by show _ < (100 : Int); omega⟩ ?_
    rw [h94]
    refine v_push rfl ?_
    refine v_ine rfl (fun _ => ?_) (fun h => absurd h (by decide))
    refine v_load rfl rfl ⟨rfl, Nat.le_of_ble_eq_true rfl⟩ ?_
    refine v_callr rfl ⟨Nat.le_of_ble_eq_true rfl, Nat.le_of_ble_eq_true rfl, rfl, Nat.le_of_ble_eq_true rfl, rfl⟩ ?_
    refine R_isWord hK ?_
    refine v_ifeq rfl (fun z1 => ?_) (fun z1 => ?_)
    · exact k71
    · refine v_load rfl rfl ⟨rfl, Nat.le_of_ble_eq_true rfl⟩ ?_
      refine v_callr rfl ⟨Nat.le_of_ble_eq_true rfl, Nat.le_of_ble_eq_true rfl, rfl, Nat.le_of_ble_eq_true rfl, rfl⟩ ?_
      refine R_keyNext hK ?_
      refine v_ifne rfl (fun _ => ?_) (fun h => absurd h (by omega))
      exact k71
  refine to71 ?_
  have m81 : a < ((toks t).length : Int) → M 81 a = srt (toks t) a := fun z => (RR_at hR ⟨r3, z⟩).1
  by_cases c2 : srt (toks t) a = 1
  · rw [if_pos c2] at hp
    have z1 := (hs1.mp c2).1
    have z2 := m81 z1
    obtain ⟨rfl, rfl⟩ : lfN 13 a 1 0 = τ ∧ a + 1 = a' := by simpa using hp
    rw [lfN_len] at hh
    refine v_load rfl rfl ⟨rfl, Nat.le_of_ble_eq_true rfl⟩ ?_
    refine v_getx rfl rfl (p2) ?_
    refine v_load rfl rfl ⟨rfl, Nat.le_of_ble_eq_true rfl⟩ ?_
    refine v_getx rfl rfl (p6) ?_
    refine v_ige rfl (fun h => absurd h (by omega)) (fun _ => ?_)
    refine v_load rfl rfl ⟨rfl, Nat.le_of_ble_eq_true rfl⟩ ?_
    refine v_getp rfl rfl rfl ?_
    refine v_load rfl rfl ⟨rfl, Nat.le_of_ble_eq_true rfl⟩ ?_
    refine v_getx rfl rfl (p2) ?_
    refine v_ald9 rfl rfl ⟨by omega, by show _ < (300 : Int); omega⟩ ?_
    refine v_push rfl ?_
    refine v_ine rfl (fun h => absurd h (by omega)) (fun _ => ?_)
    refine v_load rfl rfl ⟨rfl, Nat.le_of_ble_eq_true rfl⟩ ?_
    refine v_load rfl rfl ⟨rfl, Nat.le_of_ble_eq_true rfl⟩ ?_
    refine v_push rfl ?_
    refine v_callr rfl ⟨Nat.le_of_ble_eq_true rfl, Nat.le_of_ble_eq_true rfl, rfl, Nat.le_of_ble_eq_true rfl, rfl⟩ ?_
    refine R_leaf 0 hK (by omega) (by omega) rfl (fun M1 V1 I k1 s1 b1 => ?_)
    refine v_callr rfl ⟨Nat.le_of_ble_eq_true rfl, Nat.le_of_ble_eq_true rfl, rfl, Nat.le_of_ble_eq_true rfl, rfl⟩ ?_
    refine R_ends k1 ⟨by omega, by omega⟩ (fun M2 k2 e2 b2 => ?_)
    refine v_goto rfl ?_
    refine v_ret rfl rfl ?_
    exact fin M1 V1 I _ M2 k1 s1 b1 rfl lfN_len k2 e2 b2
  rw [if_neg c2] at hp
  have to108 : v_wp L (d + 7) 213 108 (z_ent (z_ml 213) [(2, 77), (0, g)]) [] M (RCT L d Q) → v_wp L (d + 7) 213 71 (z_ent (z_ml 213) [(2, 77), (0, g)]) [] M (RCT L d Q) := by
    intro k108
    refine v_load rfl rfl ⟨rfl, Nat.le_of_ble_eq_true rfl⟩ ?_
    refine v_getx rfl rfl (p2) ?_
    refine v_load rfl rfl ⟨rfl, Nat.le_of_ble_eq_true rfl⟩ ?_
    refine v_getx rfl rfl (p6) ?_
    refine v_ige rfl (fun z1 => ?_) (fun z1 => ?_)
    · exact k108
    · refine v_load rfl rfl ⟨rfl, Nat.le_of_ble_eq_true rfl⟩ ?_
      refine v_getp rfl rfl rfl ?_
      refine v_load rfl rfl ⟨rfl, Nat.le_of_ble_eq_true rfl⟩ ?_
      refine v_getx rfl rfl (p2) ?_
      refine v_ald9 rfl rfl ⟨by omega, by show _ < (300 : Int); omega⟩ ?_
      refine v_push rfl ?_
      refine v_ine rfl (fun _ => ?_) (fun h => absurd h (by have := m81 z1; omega))
      exact k108
  refine to108 ?_
  by_cases c3 : srt (toks t) a = 2
  · rw [if_pos c3] at hp
    have z1 := (hs2.mp c3).1
    have z2 := m81 z1
    obtain ⟨rfl, rfl⟩ : lfN 14 a 1 0 = τ ∧ a + 1 = a' := by simpa using hp
    rw [lfN_len] at hh
    refine v_load rfl rfl ⟨rfl, Nat.le_of_ble_eq_true rfl⟩ ?_
    refine v_getx rfl rfl (p2) ?_
    refine v_load rfl rfl ⟨rfl, Nat.le_of_ble_eq_true rfl⟩ ?_
    refine v_getx rfl rfl (p6) ?_
    refine v_ige rfl (fun h => absurd h (by omega)) (fun _ => ?_)
    refine v_load rfl rfl ⟨rfl, Nat.le_of_ble_eq_true rfl⟩ ?_
    refine v_getp rfl rfl rfl ?_
    refine v_load rfl rfl ⟨rfl, Nat.le_of_ble_eq_true rfl⟩ ?_
    refine v_getx rfl rfl (p2) ?_
    refine v_ald9 rfl rfl ⟨by omega, by show _ < (300 : Int); omega⟩ ?_
    refine v_push rfl ?_
    refine v_ine rfl (fun h => absurd h (by omega)) (fun _ => ?_)
    refine v_load rfl rfl ⟨rfl, Nat.le_of_ble_eq_true rfl⟩ ?_
    refine v_load rfl rfl ⟨rfl, Nat.le_of_ble_eq_true rfl⟩ ?_
    refine v_push rfl ?_
    refine v_callr rfl ⟨Nat.le_of_ble_eq_true rfl, Nat.le_of_ble_eq_true rfl, rfl, Nat.le_of_ble_eq_true rfl, rfl⟩ ?_
    refine R_leaf 0 hK (by omega) (by omega) rfl (fun M1 V1 I k1 s1 b1 => ?_)
    refine v_callr rfl ⟨Nat.le_of_ble_eq_true rfl, Nat.le_of_ble_eq_true rfl, rfl, Nat.le_of_ble_eq_true rfl, rfl⟩ ?_
    refine R_ends k1 ⟨by omega, by omega⟩ (fun M2 k2 e2 b2 => ?_)
    refine v_goto rfl ?_
    refine v_ret rfl rfl ?_
    exact fin M1 V1 I _ M2 k1 s1 b1 rfl lfN_len k2 e2 b2
  rw [if_neg c3] at hp
  have to145 : v_wp L (d + 7) 213 145 (z_ent (z_ml 213) [(2, 77), (0, g)]) [] M (RCT L d Q) → v_wp L (d + 7) 213 108 (z_ent (z_ml 213) [(2, 77), (0, g)]) [] M (RCT L d Q) := by
    intro k145
    refine v_load rfl rfl ⟨rfl, Nat.le_of_ble_eq_true rfl⟩ ?_
    refine v_getx rfl rfl (p2) ?_
    refine v_load rfl rfl ⟨rfl, Nat.le_of_ble_eq_true rfl⟩ ?_
    refine v_getx rfl rfl (p6) ?_
    refine v_ige rfl (fun z1 => ?_) (fun z1 => ?_)
    · exact k145
    · refine v_load rfl rfl ⟨rfl, Nat.le_of_ble_eq_true rfl⟩ ?_
      refine v_getp rfl rfl rfl ?_
      refine v_load rfl rfl ⟨rfl, Nat.le_of_ble_eq_true rfl⟩ ?_
      refine v_getx rfl rfl (p2) ?_
      refine v_ald9 rfl rfl ⟨by omega, by show _ < (300 : Int); omega⟩ ?_
      refine v_push rfl ?_
      refine v_ine rfl (fun _ => ?_) (fun h => absurd h (by have := m81 z1; omega))
      exact k145
  refine to145 ?_
  by_cases c4 : ¬ sgn (toks t) a = 40 ∨ 10 ≤ ne
  · rw [if_pos c4] at hp
    obtain ⟨rfl, rfl⟩ : lfN 17 a 0 0 = τ ∧ a = a' := by simpa using hp
    rw [lfN_len] at hh
    have k181 : v_wp L (d + 7) 213 181 (z_ent (z_ml 213) [(2, 77), (0, g)]) [] M (RCT L d Q) := by
      refine v_load rfl rfl ⟨rfl, Nat.le_of_ble_eq_true rfl⟩ ?_
      refine v_load rfl rfl ⟨rfl, Nat.le_of_ble_eq_true rfl⟩ ?_
      refine v_push rfl ?_
      refine v_callr rfl ⟨Nat.le_of_ble_eq_true rfl, Nat.le_of_ble_eq_true rfl, rfl, Nat.le_of_ble_eq_true rfl, rfl⟩ ?_
      refine R_miss hK (by omega) (fun M1 V1 I k1 s1 b1 => ?_)
      refine v_callr rfl ⟨Nat.le_of_ble_eq_true rfl, Nat.le_of_ble_eq_true rfl, rfl, Nat.le_of_ble_eq_true rfl, rfl⟩ ?_
      refine R_ends k1 ⟨by omega, by omega⟩ (fun M2 k2 e2 b2 => ?_)
      refine v_ret rfl rfl ?_
      exact fin M1 V1 I _ M2 k1 s1 b1 rfl lfN_len k2 e2 b2
    refine v_load rfl rfl ⟨rfl, Nat.le_of_ble_eq_true rfl⟩ ?_
    refine v_push rfl ?_
    refine v_callr rfl ⟨Nat.le_of_ble_eq_true rfl, Nat.le_of_ble_eq_true rfl, rfl, Nat.le_of_ble_eq_true rfl, rfl⟩ ?_
    refine R_isNext hK (by decide) ?_
    refine v_ifeq rfl (fun z1 => ?_) (fun z1 => ?_)
    · exact k181
    · refine v_load rfl rfl ⟨rfl, Nat.le_of_ble_eq_true rfl⟩ ?_
      refine v_getx rfl rfl (p4) ?_
      refine v_push rfl ?_
      refine v_ige rfl (fun _ => ?_) (fun h => absurd h (by omega))
      exact k181
  · rw [if_neg c4] at hp
    have c5 : sgn (toks t) a = 40 := by omega
    have hlt := (sgn_lt (T := toks t) (i := a) (by omega)).2
    obtain ⟨e, e1, e2⟩ := ob_some hp
    obtain ⟨τe, q1, q2, q3, q4, q5, q6, q7⟩ := P_ok3 hT e1 (by omega) (by omega)
    obtain ⟨ea, eb⟩ := e
    have q1 : ea = [τe] := q1
    subst q1
    have q3 : a + 1 ≤ eb := q3
    have q4 : eb ≤ ((toks t).length : Int) := q4
    obtain ⟨rfl, rfl⟩ : mkN 15 a (clos (toks t) 41 eb).2 0 ([lfN 16 a 1 40] ++ [τe] ++ [(clos (toks t) 41 eb).1]) = τ ∧ (clos (toks t) 41 eb).2 = a' := by simpa using e2
    have k3 := (clos_ok (T := toks t) (sg := 41) (at_ := eb) ⟨by omega, q4⟩ (by decide)).2.2
    have hlen : (mkN 15 a (clos (toks t) 41 eb).2 0 ([lfN 16 a 1 40] ++ [τe] ++ [(clos (toks t) 41 eb).1])).length = τe.length + 3 := by rw [mkN_len]; simp only [List.flatten_append, List.flatten_cons, List.flatten_nil, List.append_nil, List.length_append, lfN_len, k3]; omega
    rw [hlen] at hh
    refine v_load rfl rfl ⟨rfl, Nat.le_of_ble_eq_true rfl⟩ ?_
    refine v_push rfl ?_
    refine v_callr rfl ⟨Nat.le_of_ble_eq_true rfl, Nat.le_of_ble_eq_true rfl, rfl, Nat.le_of_ble_eq_true rfl, rfl⟩ ?_
    refine R_isNext hK (by decide) ?_
    refine v_ifeq rfl (fun h => absurd h (by omega)) (fun _ => ?_)
    refine v_load rfl rfl ⟨rfl, Nat.le_of_ble_eq_true rfl⟩ ?_
    refine v_getx rfl rfl (p4) ?_
    refine v_push rfl ?_
    refine v_ige rfl (fun h => absurd h (by omega)) (fun _ => ?_)
    refine v_load rfl rfl ⟨rfl, Nat.le_of_ble_eq_true rfl⟩ ?_
    refine v_load rfl rfl ⟨rfl, Nat.le_of_ble_eq_true rfl⟩ ?_
    refine v_push rfl ?_
    refine v_callr rfl ⟨Nat.le_of_ble_eq_true rfl, Nat.le_of_ble_eq_true rfl, rfl, Nat.le_of_ble_eq_true rfl, rfl⟩ ?_
    refine R_beginsNested (f := g) 40 hK ⟨hg, by omega⟩ ⟨by omega, by omega⟩ (by omega) (by omega) ⟨rfl, by decide, by decide, by decide⟩ (fun M1 V1 I1 k1 o1 x1 b1 => ?_)
    refine v_load rfl rfl ⟨rfl, Nat.le_of_ble_eq_true rfl⟩ ?_
    refine v_load rfl rfl ⟨rfl, Nat.le_of_ble_eq_true rfl⟩ ?_
    refine v_push rfl ?_
    refine v_push rfl ?_
    refine v_push rfl ?_
    refine v_callr rfl ⟨Nat.le_of_ble_eq_true rfl, Nat.le_of_ble_eq_true rfl, rfl, Nat.le_of_ble_eq_true rfl, rfl⟩ ?_
    refine R_goes (f := g) k1 ⟨hg, by omega⟩ (fun M2 k2 fr2 st2 b2 => ?_)
    refine v_goto rfl ?_
    refine v_ret rfl rfl ?_
    have m93 : M2 93 g = 5 := by rw [b2 93 g (by omega) (fun _ => ⟨by omega, by omega⟩), b1 93 g (by decide) (by omega) (by omega)]; exact h93
    have m95 : M2 95 g = h := by rw [b2 95 g (by omega) (fun _ => ⟨by omega, by omega⟩)]; exact x1
    have f2 : KF g rl M M2 := KF_tr (KF_bn b1 (Int.le_refl _)) (KF_go b2) (Int.le_refl _) (Int.le_refl _)
    refine ⟨rfl, hE (ne + 1) (a + 1) _ (g + 1) rl V1 M2 d Q τe eb e1 k2 (by omega) fr2.1 fr2.2.1 (by omega) (by omega) (by omega) (by omega) (by omega) (by omega) hr0 (by omega) (fun M7 V7 x7 I7 k7 r7 e7 f7 => ?_)⟩
    have n93 : M7 93 g = 5 := (f7.2.2.1 93 g (by decide) (by decide) (by omega)).trans m93
    have n94 : M7 94 g = 1 := (f7.2.2.1 94 g (by decide) (by decide) (by omega)).trans st2
    have n95 : M7 95 g = h := (f7.2.2.1 95 g (by decide) (by decide) (by omega)).trans m95
    refine R_step5 k7 ⟨hg, by omega⟩ n93 ?_
    refine v_in ?_
    refine v_load rfl rfl ⟨rfl, Nat.le_of_ble_eq_true rfl⟩ ?_
    refine v_getp rfl rfl rfl ?_
    refine v_load rfl rfl ⟨rfl, Nat.le_of_ble_eq_true rfl⟩ ?_
    refine v_ald9 rfl rfl ⟨by omega, by show _ < (100 : Int); omega⟩ ?_
    rw [n94]
    refine v_push rfl ?_
    refine v_ine rfl (fun h => absurd h (by decide)) (fun _ => ?_)
    refine v_load rfl rfl ⟨rfl, Nat.le_of_ble_eq_true rfl⟩ ?_
    refine v_load rfl rfl ⟨rfl, Nat.le_of_ble_eq_true rfl⟩ ?_
    refine v_getp rfl rfl rfl ?_
    refine v_load rfl rfl ⟨rfl, Nat.le_of_ble_eq_true rfl⟩ ?_
    refine v_ald9 rfl rfl ⟨by omega, by show _ < (100 : Int); omega⟩ ?_
    rw [n95]
    refine v_load rfl rfl ⟨rfl, Nat.le_of_ble_eq_true rfl⟩ ?_
    refine v_getx rfl rfl (e7) ?_
    refine v_callr rfl ⟨Nat.le_of_ble_eq_true rfl, Nat.le_of_ble_eq_true rfl, rfl, Nat.le_of_ble_eq_true rfl, rfl⟩ ?_
    refine R_adds o1 k7 (by omega) r7 (fun M8 V8 k8 o8 b8 => ?_)
    refine v_load rfl rfl ⟨rfl, Nat.le_of_ble_eq_true rfl⟩ ?_
    refine v_load rfl rfl ⟨rfl, Nat.le_of_ble_eq_true rfl⟩ ?_
    refine v_getp rfl rfl rfl ?_
    refine v_load rfl rfl ⟨rfl, Nat.le_of_ble_eq_true rfl⟩ ?_
    refine v_ald9 rfl rfl ⟨by omega, by show _ < (100 : Int); omega⟩ ?_
    rw [b8 95 g (by decide) (by omega), n95]
    refine v_push rfl ?_
    refine v_callr rfl ⟨Nat.le_of_ble_eq_true rfl, Nat.le_of_ble_eq_true rfl, rfl, Nat.le_of_ble_eq_true rfl, rfl⟩ ?_
    refine R_signs o8 k8 (by decide) (by omega) (by omega) (fun M9 V9 I9 k9 o9 b9 => ?_)
    refine v_load rfl rfl ⟨rfl, Nat.le_of_ble_eq_true rfl⟩ ?_
    refine v_load rfl rfl ⟨rfl, Nat.le_of_ble_eq_true rfl⟩ ?_
    refine v_callr rfl ⟨Nat.le_of_ble_eq_true rfl, Nat.le_of_ble_eq_true rfl, rfl, Nat.le_of_ble_eq_true rfl, rfl⟩ ?_
    refine R_endsNested (f := g) (x := h) (KS_55 (x := h) (up := (clos (toks t) 41 eb).2) k9) ⟨by omega, by omega⟩ ⟨hg, by omega⟩ ⟨by omega, by omega⟩ (by rw [b9 95 g (by decide) (by omega), b8 95 g (by decide) (by omega)]; exact n95) (fun M10 k10 e10 b10 => ?_)
    refine v_goto rfl ?_
    refine v_ret rfl rfl ?_
    rw [show g + 1 - 1 = g by omega, show ne + 1 - 1 = ne by omega] at k10
    exact ⟨rfl, RL_fin (by rw [hlen]; omega) k10 (g_shut o9) e10 (KF_tr f2 (KF_tr (KF_w f7 (by omega) (Int.le_refl _)) (KF_tr (KF_KB (KB_tr b8 b9)) (KF_eN b10) (Int.le_refl _) (Int.le_refl _)) (Int.le_refl _) (Int.le_refl _)) (Int.le_refl _) (Int.le_refl _)) k⟩
end RE
