section RT3
variable {L : Nat} {t : List Int} {f : Nat}
/-- what is left of a piece: an end of the frame -/
theorem rg_2 (hI : RG L t f 1 1 3) : RG L t (f + 1) 2 2 4 := by
  intro ne a h g rl V M d Q τ a' hp hK hg h93 h94 hal _ hh hn0 hn1 hgc hr0 hra k
  obtain ⟨⟨hX, hR⟩, ⟨p1, p2, p3, p4, p5⟩, -, r1, r2, r3, r4⟩ := id hK
  have hl : ((toks t).length : Int) ≤ 300 := by have := hR.2.1; omega
  unfold P at hp
  simp only at hp
  refine R_step2 hK ⟨hg, by omega⟩ h93 ?_
  refine v_in ?_
  by_cases hc : (srt (toks t) a = 0 ∧ sgn (toks t) a ≠ 2) ∨ sgn (toks t) a = 123 ∨ sgn (toks t) a = 59
  · rw [if_pos hc] at hp
    have hlt := (istart_lt (T := toks t) (i := a) hc).2
    have k54 : v_wp L (d + 7) 210 54 (z_ent (z_ml 210) [(2, 77), (0, g)]) [] M (RCT L d Q) := by
      refine v_load rfl rfl ⟨rfl, Nat.le_of_ble_eq_true rfl⟩ ?_
      refine v_load rfl rfl ⟨rfl, Nat.le_of_ble_eq_true rfl⟩ ?_
      refine v_push rfl ?_
      refine v_push rfl ?_
      refine v_push rfl ?_
      refine v_callr rfl ⟨Nat.le_of_ble_eq_true rfl, Nat.le_of_ble_eq_true rfl, rfl, Nat.le_of_ble_eq_true rfl, rfl⟩ ?_
      refine R_goes (f := g) hK ⟨hg, by omega⟩ (fun M6 k6 fr6 st6 b6 => ?_)
      refine v_goto rfl ?_
      refine v_ret rfl rfl ?_
      have m93 : M6 93 g = 2 := by rw [b6 93 g (by omega) (by omega)]; exact h93
      refine ⟨rfl, hI ne a h (g + 1) rl V M6 d Q τ a' hp k6 (by omega) fr6.1 fr6.2.1 hal (fun _ => hlt) hh hn0 hn1 (by omega) hr0 hra (fun M7 V7 x7 I7 k7 r7 e7 f7 => ?_)⟩
      have n93 : M7 93 g = 2 := (f7.2.2.1 93 g (by decide) (by decide) (by omega)).trans m93
      have n94 : M7 94 g = 1 := (f7.2.2.1 94 g (by decide) (by decide) (by omega)).trans st6
      refine R_step2 k7 ⟨hg, by omega⟩ n93 ?_
      refine v_in ?_
      refine v_load rfl rfl ⟨rfl, Nat.le_of_ble_eq_true rfl⟩ ?_
      refine v_getp rfl rfl rfl ?_
      refine v_load rfl rfl ⟨rfl, Nat.le_of_ble_eq_true rfl⟩ ?_
      refine v_ald9 rfl rfl ⟨by omega, by show _ < (100 : Int); omega⟩ ?_
      rw [n94]
      refine v_push rfl ?_
      refine v_ine rfl (fun h => absurd h (by decide)) (fun _ => ?_)
      refine v_load rfl rfl ⟨rfl, Nat.le_of_ble_eq_true rfl⟩ ?_
      refine v_load rfl rfl ⟨rfl, Nat.le_of_ble_eq_true rfl⟩ ?_
      refine v_getx rfl rfl (e7) ?_
      refine v_callr rfl ⟨Nat.le_of_ble_eq_true rfl, Nat.le_of_ble_eq_true rfl, rfl, Nat.le_of_ble_eq_true rfl, rfl⟩ ?_
      refine R_ends k7 ⟨by omega, by omega⟩ (fun M8 k8 e8 b8 => ?_)
      refine v_goto rfl ?_
      refine v_ret rfl rfl ?_
      rw [show g + 1 - 1 = g by omega] at k8
      exact ⟨rfl, k M8 V7 x7 I7 k8 r7 e8 (KF_tr (KF_go b6) (KF_tr (KF_w f7 (by omega) (Int.le_refl _)) (KF_en b8) (Int.le_refl _) (Int.le_refl _)) (Int.le_refl _) (Int.le_refl _))⟩
    refine v_load rfl rfl ⟨rfl, Nat.le_of_ble_eq_true rfl⟩ ?_
    refine v_getp rfl rfl rfl ?_
    refine v_load rfl rfl ⟨rfl, Nat.le_of_ble_eq_true rfl⟩ ?_
    refine v_ald9 rfl rfl ⟨by omega, by show _ < (100 : Int); omega⟩ ?_
    rw [h94]
    refine v_push rfl ?_
    refine v_ine rfl (fun _ => ?_) (fun h => absurd h (by decide))
    refine v_load rfl rfl ⟨rfl, Nat.le_of_ble_eq_true rfl⟩ ?_
    refine v_callr rfl ⟨Nat.le_of_ble_eq_true rfl, Nat.le_of_ble_eq_true rfl, rfl, Nat.le_of_ble_eq_true rfl, rfl⟩ ?_
    refine R_isWord hK ?_
    refine v_ifeq rfl (fun c1 => ?_) (fun c1 => ?_)
    · refine v_load rfl rfl ⟨rfl, Nat.le_of_ble_eq_true rfl⟩ ?_
      refine v_push rfl ?_
      refine v_callr rfl ⟨Nat.le_of_ble_eq_true rfl, Nat.le_of_ble_eq_true rfl, rfl, Nat.le_of_ble_eq_true rfl, rfl⟩ ?_
      refine R_isNext hK (by decide) ?_
      refine v_ifne rfl (fun c2 => ?_) (fun c2 => ?_)
      · first | exact k54 | (exfalso; omega)
      · refine v_load rfl rfl ⟨rfl, Nat.le_of_ble_eq_true rfl⟩ ?_
        refine v_push rfl ?_
        refine v_callr rfl ⟨Nat.le_of_ble_eq_true rfl, Nat.le_of_ble_eq_true rfl, rfl, Nat.le_of_ble_eq_true rfl, rfl⟩ ?_
        refine R_isNext hK (by decide) ?_
        refine v_ifeq rfl (fun c3 => ?_) (fun c3 => ?_)
        · first | exact k54 | (exfalso; omega)
        · first | exact k54 | (exfalso; omega)
    · refine v_load rfl rfl ⟨rfl, Nat.le_of_ble_eq_true rfl⟩ ?_
      refine v_callr rfl ⟨Nat.le_of_ble_eq_true rfl, Nat.le_of_ble_eq_true rfl, rfl, Nat.le_of_ble_eq_true rfl, rfl⟩ ?_
      refine R_keyNext hK ?_
      refine v_push rfl ?_
      refine v_ine rfl (fun c4 => ?_) (fun c4 => ?_)
      · first | exact k54 | (exfalso; omega)
      · refine v_load rfl rfl ⟨rfl, Nat.le_of_ble_eq_true rfl⟩ ?_
        refine v_push rfl ?_
        refine v_callr rfl ⟨Nat.le_of_ble_eq_true rfl, Nat.le_of_ble_eq_true rfl, rfl, Nat.le_of_ble_eq_true rfl, rfl⟩ ?_
        refine R_isNext hK (by decide) ?_
        refine v_ifne rfl (fun c5 => ?_) (fun c5 => ?_)
        · first | exact k54 | (exfalso; omega)
        · refine v_load rfl rfl ⟨rfl, Nat.le_of_ble_eq_true rfl⟩ ?_
          refine v_push rfl ?_
          refine v_callr rfl ⟨Nat.le_of_ble_eq_true rfl, Nat.le_of_ble_eq_true rfl, rfl, Nat.le_of_ble_eq_true rfl, rfl⟩ ?_
          refine R_isNext hK (by decide) ?_
          refine v_ifeq rfl (fun c6 => ?_) (fun c6 => ?_)
          · first | exact k54 | (exfalso; omega)
          · first | exact k54 | (exfalso; omega)
  · rw [if_neg hc] at hp
    obtain ⟨rfl, rfl⟩ : lfN 17 a 0 0 = τ ∧ a = a' := by simpa using hp
    rw [lfN_len] at hh k
    have k65 : v_wp L (d + 7) 210 65 (z_ent (z_ml 210) [(2, 77), (0, g)]) [] M (RCT L d Q) := by
      refine v_load rfl rfl ⟨rfl, Nat.le_of_ble_eq_true rfl⟩ ?_
      refine v_load rfl rfl ⟨rfl, Nat.le_of_ble_eq_true rfl⟩ ?_
      refine v_push rfl ?_
      refine v_callr rfl ⟨Nat.le_of_ble_eq_true rfl, Nat.le_of_ble_eq_true rfl, rfl, Nat.le_of_ble_eq_true rfl, rfl⟩ ?_
      refine R_miss hK (by omega) (fun M1 V1 I k1 s1 b1 => ?_)
      refine v_callr rfl ⟨Nat.le_of_ble_eq_true rfl, Nat.le_of_ble_eq_true rfl, rfl, Nat.le_of_ble_eq_true rfl, rfl⟩ ?_
      refine R_ends k1 ⟨by omega, by omega⟩ (fun M2 k2 e2 b2 => ?_)
      refine v_ret rfl rfl ?_
      rw [show g + 1 - 1 = g by omega] at k2
      exact ⟨rfl, k M2 V1 h I k2 s1 e2 (KF_tr (KF_KB b1) (KF_en b2) (Int.le_refl _) (Int.le_refl _))⟩
    refine v_load rfl rfl ⟨rfl, Nat.le_of_ble_eq_true rfl⟩ ?_
    refine v_getp rfl rfl rfl ?_
    refine v_load rfl rfl ⟨rfl, Nat.le_of_ble_eq_true rfl⟩ ?_
    refine v_ald9 rfl rfl ⟨by omega, by show _ < (100 : Int); omega⟩ ?_
    rw [h94]
    refine v_push rfl ?_
    refine v_ine rfl (fun _ => ?_) (fun h => absurd h (by decide))
    refine v_load rfl rfl ⟨rfl, Nat.le_of_ble_eq_true rfl⟩ ?_
    refine v_callr rfl ⟨Nat.le_of_ble_eq_true rfl, Nat.le_of_ble_eq_true rfl, rfl, Nat.le_of_ble_eq_true rfl, rfl⟩ ?_
    refine R_isWord hK ?_
    refine v_ifeq rfl (fun c7 => ?_) (fun c7 => ?_)
    · refine v_load rfl rfl ⟨rfl, Nat.le_of_ble_eq_true rfl⟩ ?_
      refine v_push rfl ?_
      refine v_callr rfl ⟨Nat.le_of_ble_eq_true rfl, Nat.le_of_ble_eq_true rfl, rfl, Nat.le_of_ble_eq_true rfl, rfl⟩ ?_
      refine R_isNext hK (by decide) ?_
      refine v_ifne rfl (fun c8 => ?_) (fun c8 => ?_)
      · first | exact k65 | (exfalso; omega)
      · refine v_load rfl rfl ⟨rfl, Nat.le_of_ble_eq_true rfl⟩ ?_
        refine v_push rfl ?_
        refine v_callr rfl ⟨Nat.le_of_ble_eq_true rfl, Nat.le_of_ble_eq_true rfl, rfl, Nat.le_of_ble_eq_true rfl, rfl⟩ ?_
        refine R_isNext hK (by decide) ?_
        refine v_ifeq rfl (fun c9 => ?_) (fun c9 => ?_)
        · first | exact k65 | (exfalso; omega)
        · first | exact k65 | (exfalso; omega)
    · refine v_load rfl rfl ⟨rfl, Nat.le_of_ble_eq_true rfl⟩ ?_
      refine v_callr rfl ⟨Nat.le_of_ble_eq_true rfl, Nat.le_of_ble_eq_true rfl, rfl, Nat.le_of_ble_eq_true rfl, rfl⟩ ?_
      refine R_keyNext hK ?_
      refine v_push rfl ?_
      refine v_ine rfl (fun c10 => ?_) (fun c10 => ?_)
      · first | exact k65 | (exfalso; omega)
      · refine v_load rfl rfl ⟨rfl, Nat.le_of_ble_eq_true rfl⟩ ?_
        refine v_push rfl ?_
        refine v_callr rfl ⟨Nat.le_of_ble_eq_true rfl, Nat.le_of_ble_eq_true rfl, rfl, Nat.le_of_ble_eq_true rfl, rfl⟩ ?_
        refine R_isNext hK (by decide) ?_
        refine v_ifne rfl (fun c11 => ?_) (fun c11 => ?_)
        · first | exact k65 | (exfalso; omega)
        · refine v_load rfl rfl ⟨rfl, Nat.le_of_ble_eq_true rfl⟩ ?_
          refine v_push rfl ?_
          refine v_callr rfl ⟨Nat.le_of_ble_eq_true rfl, Nat.le_of_ble_eq_true rfl, rfl, Nat.le_of_ble_eq_true rfl, rfl⟩ ?_
          refine R_isNext hK (by decide) ?_
          refine v_ifeq rfl (fun c12 => ?_) (fun c12 => ?_)
          · first | exact k65 | (exfalso; omega)
          · first | exact k65 | (exfalso; omega)
/-- a list behind its first one -/
def RLs (L : Nat) (t : List Int) (f : Nat) : Prop := ∀ (ne a h g rl lo x fr : Int) (V0 V M : zM) (d : Nat) (Q : Option zV → zM → Prop) (ks : List zK) (cs : List (List zN)) (a' : Int), P (toks t) f 8 ne [] a = some (cs, a') → KS t h a (g + 1) ne rl V M → OPN lo V0 V x 4 fr 0 ks h → 0 ≤ g → M 93 g = 1 → M 94 g = 5 → M 96 g = x → a ≤ ((toks t).length : Int) → h + (cs.flatten.length : Int) ≤ 1216 → 0 ≤ ne → ne ≤ 10 → g + 3 * (10 - ne) + 3 ≤ 98 → 0 ≤ rl → rl ≤ a →
  (∀ M' V' ks', KS t (h + (cs.flatten.length : Int)) a' (g + 1) ne rl V' M' → OPN lo V0 V' x 4 fr 0 ks' (h + (cs.flatten.length : Int)) → trs ks' = trs ks ++ cs → KF (g + 1) rl M M' → v_wp L (d + 7) 209 259 [(2, 77), (0, g)] [] M' (RCT L d Q)) → v_wp L (d + 7) 209 225 [(2, 77), (0, g)] [] M (RCT L d Q)
theorem rls_8 (hE : RG L t f 3 3 2) (hL : RLs L t f) : RLs L t (f + 1) := by
  intro ne a h g rl lo x fr V0 V M d Q ks cs a' hp hK hO hg h93 h94 h96 hal hh hn0 hn1 hgc hr0 hra k
  have hT := tkOK_toks t
  obtain ⟨⟨hX, hR⟩, ⟨p1, p2, p3, p4, p5⟩, -, r1, r2, r3, r4⟩ := id hK
  have hl : ((toks t).length : Int) ≤ 300 := by have := hR.2.1; omega
  unfold P at hp
  simp only at hp
  by_cases hc : sgn (toks t) a = 44
  · rw [if_pos hc] at hp
    have hlt := (sgn_lt (T := toks t) (i := a) (by omega)).2
    obtain ⟨e, e1, e2⟩ := ob_some hp
    obtain ⟨e', e3, e4⟩ := ob_some e2
    obtain ⟨τe, q1, q2, q3, q4, q5, q6, q7⟩ := P_ok3 hT e1 (by omega) (by omega)
    obtain ⟨ea, eb⟩ := e
    have q1 : ea = [τe] := q1
    subst q1
    have q3 : a + 1 ≤ eb := q3
    have q4 : eb ≤ ((toks t).length : Int) := q4
    obtain ⟨cs', a2⟩ := e'
    obtain ⟨rfl, rfl⟩ : [lfN 16 a 1 0] ++ [τe] ++ cs' = cs ∧ a2 = a' := by simpa using e4
    have hfl : ((([lfN 16 a 1 0] ++ [τe] ++ cs').flatten.length : Nat) : Int) = 1 + (τe.length : Int) + (cs'.flatten.length : Int) := by
      simp only [List.flatten_append, List.flatten_cons, List.flatten_nil, List.append_nil, List.length_append, lfN_len]; omega
    rw [hfl] at hh k
    refine v_load rfl rfl ⟨rfl, Nat.le_of_ble_eq_true rfl⟩ ?_
    refine v_push rfl ?_
    refine v_callr rfl ⟨Nat.le_of_ble_eq_true rfl, Nat.le_of_ble_eq_true rfl, rfl, Nat.le_of_ble_eq_true rfl, rfl⟩ ?_
    refine R_isNext hK (by decide) ?_
    refine v_ifeq rfl (fun h => absurd h (by omega)) (fun _ => ?_)
    refine v_load rfl rfl ⟨rfl, Nat.le_of_ble_eq_true rfl⟩ ?_
    refine v_load rfl rfl ⟨rfl, Nat.le_of_ble_eq_true rfl⟩ ?_
    refine v_getp rfl rfl rfl ?_
    refine v_load rfl rfl ⟨rfl, Nat.le_of_ble_eq_true rfl⟩ ?_
    refine v_ald9 rfl rfl ⟨by omega, by show _ < (100 : Int); omega⟩ ?_
    rw [h96]
    refine v_load rfl rfl ⟨rfl, Nat.le_of_ble_eq_true rfl⟩ ?_
    refine v_push rfl ?_
    refine v_callr rfl ⟨Nat.le_of_ble_eq_true rfl, Nat.le_of_ble_eq_true rfl, rfl, Nat.le_of_ble_eq_true rfl, rfl⟩ ?_
    refine R_leaf 0 hK (by omega) (by omega) rfl (fun M1 V1 I1 k1 s1 b1 => ?_)
    refine v_callr rfl ⟨Nat.le_of_ble_eq_true rfl, Nat.le_of_ble_eq_true rfl, rfl, Nat.le_of_ble_eq_true rfl, rfl⟩ ?_
    refine R_adds hO k1 (by omega) s1 (fun M2 V2 k2 o2 b2 => ?_)
    refine v_load rfl rfl ⟨rfl, Nat.le_of_ble_eq_true rfl⟩ ?_
    refine v_push rfl ?_
    refine v_push rfl ?_
    refine v_callr rfl ⟨Nat.le_of_ble_eq_true rfl, Nat.le_of_ble_eq_true rfl, rfl, Nat.le_of_ble_eq_true rfl, rfl⟩ ?_
    refine R_pushes k2 ⟨by omega, by omega⟩ (fun M3 k3 fr3 b3 => ?_)
    refine v_goto rfl ?_
    refine v_ret rfl rfl ?_
    have b12 := KB_tr b1 b2
    have f3 : KF (g + 1) rl M M3 := KF_tr (KF_KB b12) (KF_KP b3 (Int.le_refl _)) (Int.le_refl _) (Int.le_refl _)
    refine ⟨rfl, hE ne (a + 1) _ (g + 1) rl V2 M3 d Q τe eb e1 k3 (by omega) fr3.1 fr3.2.1 (by omega) (by omega) (by omega) hn0 hn1 (by omega) hr0 (by omega) (fun M7 V7 x7 I7 k7 r7 e7 f7 => ?_)⟩
    have f7' := KF_tr f3 f7 (Int.le_refl _) (Int.le_refl _)
    have n93 : M7 93 g = 1 := (f7'.2.2.1 93 g (by decide) (by decide) (by omega)).trans h93
    have n94 : M7 94 g = 5 := (f7'.2.2.1 94 g (by decide) (by decide) (by omega)).trans h94
    have n96 : M7 96 g = x := (f7'.2.2.1 96 g (by decide) (by decide) (by omega)).trans h96
    refine R_it5 k7 ⟨hg, by omega⟩ n93 n94 ?_
    refine v_load rfl rfl ⟨rfl, Nat.le_of_ble_eq_true rfl⟩ ?_
    refine v_load rfl rfl ⟨rfl, Nat.le_of_ble_eq_true rfl⟩ ?_
    refine v_getp rfl rfl rfl ?_
    refine v_load rfl rfl ⟨rfl, Nat.le_of_ble_eq_true rfl⟩ ?_
    refine v_ald9 rfl rfl ⟨by omega, by show _ < (100 : Int); omega⟩ ?_
    rw [n96]
    refine v_load rfl rfl ⟨rfl, Nat.le_of_ble_eq_true rfl⟩ ?_
    refine v_getx rfl rfl (e7) ?_
    refine v_callr rfl ⟨Nat.le_of_ble_eq_true rfl, Nat.le_of_ble_eq_true rfl, rfl, Nat.le_of_ble_eq_true rfl, rfl⟩ ?_
    refine R_adds o2 k7 (by omega) r7 (fun M8 V8 k8 o8 b8 => ?_)
    refine hL ne eb _ g rl lo x fr V0 V8 M8 d Q _ cs' a2 e3 k8 o8 hg ?_ ?_ ?_ q4 (by omega) hn0 hn1 hgc hr0 (by omega) (fun M9 V9 ks9 k9 o9 t9 f9 => ?_)
    · rw [b8 93 g (by decide) (by omega)]; exact n93
    · rw [b8 94 g (by decide) (by omega)]; exact n94
    · rw [b8 96 g (by decide) (by omega)]; exact n96
    · have eh : h + 1 + (τe.length : Int) + (cs'.flatten.length : Int) = h + (1 + (τe.length : Int) + (cs'.flatten.length : Int)) := by omega
      rw [eh] at k9 o9
      refine k M9 V9 ks9 k9 o9 ?_ (KF_tr f7' (KF_tr (KF_KB b8) f9 (Int.le_refl _) (Int.le_refl _)) (Int.le_refl _) (Int.le_refl _))
      rw [t9]
      simp [trs]
  · rw [if_neg hc] at hp
    obtain ⟨rfl, rfl⟩ : [] = cs ∧ a = a' := by simpa using hp
    refine v_load rfl rfl ⟨rfl, Nat.le_of_ble_eq_true rfl⟩ ?_
    refine v_push rfl ?_
    refine v_callr rfl ⟨Nat.le_of_ble_eq_true rfl, Nat.le_of_ble_eq_true rfl, rfl, Nat.le_of_ble_eq_true rfl, rfl⟩ ?_
    refine R_isNext hK (by decide) ?_
    refine v_ifeq rfl (fun _ => ?_) (fun h => absurd h (by omega))
    exact k M V ks (by simpa using hK) (by simpa using hO) (by simp) KF_rf
set_option maxRecDepth 4000 in
/-- IF, WHILE behind their mark -/
theorem rg_branch (hE : RG L t f 3 3 2) (hB : RG L t f 2 2 4) {ne a h g rl so : Int} {V V1 M M1 : zM} {d : Nat} {Q : Option zV → zM → Prop} {τ : List zN} {I1 : List Int} {a' : Int} (hso : so = if sgn (toks t) a = 1 then 6 else 7) (hp : ((P (toks t) f 3 (ne + 1) [] (a + 1)).bind fun e => (P (toks t) f 2 (ne + 1) [] e.2).bind fun b =>
          if sgn (toks t) a = 1 ∧ sgn (toks t) b.2 = 2 then (P (toks t) f 2 (ne + 1) [] (b.2 + 1)).bind fun b2 => some ([mkN 6 a b2.2 0 ([lfN 16 a 1 0] ++ e.1 ++ b.1 ++ [lfN 16 b.2 1 0] ++ b2.1)], b2.2)
          else some ([mkN (if sgn (toks t) a = 1 then 6 else 7) a b.2 0 ([lfN 16 a 1 0] ++ e.1 ++ b.1)], b.2)) = some ([τ], a')) (hK : KS t (h + 2) (a + 1) (g + 1 + 1) (ne + 1) rl V1 M1) (hO : OPN h V V1 h so a 0 ([] ++ [(h + 1, lfN 16 a 1 0, I1)]) (h + 2)) (hF : FRM M1 g 1 h 3 0) (hf : KF g rl M M1) (ha0 : 0 ≤ a) (hlt : a < ((toks t).length : Int)) (hh : h + (τ.length : Int) ≤ 1216) (hg : 0 ≤ g) (hn0 : 0 ≤ ne) (hn1 : ne < 10) (hgc : g + 3 * (10 - ne) + 3 ≤ 98) (hr0 : 0 ≤ rl) (hra : rl ≤ a)
    (k : ∀ M' V' x I, KS t (h + (τ.length : Int)) a' g ne rl V' M' → RES h V (h + (τ.length : Int)) V' x τ I → M' 77 31 = x → KF g rl M M' → RLP L d Q M') : RLP L d Q M1 := by
  have hT := tkOK_toks t
  have hl : ((toks t).length : Int) ≤ 300 := by have := hK.1.2.2.1; omega
  obtain ⟨e, e1, e2⟩ := ob_some hp
  obtain ⟨b, e3, e4⟩ := ob_some e2
  obtain ⟨τe, q1, q2, q3, q4, q5, q6, q7⟩ := P_ok3 hT e1 (by omega) (by omega)
  obtain ⟨ea, eb⟩ := e
  have q1 : ea = [τe] := q1
  subst q1
  have q3 : a + 1 ≤ eb := q3
  have q4 : eb ≤ ((toks t).length : Int) := q4
  obtain ⟨τb, s1, s2, s3, s4⟩ := okB_one (P_ok2 hT e3 (by show (0 : Int) ≤ eb; omega) q4) q4
  obtain ⟨ba, bb⟩ := b
  have s1 : ba = [τb] := s1
  subst s1
  have s3 : eb ≤ bb := s3
  have s4 : bb ≤ ((toks t).length : Int) := s4
  have e4 : (if sgn (toks t) a = 1 ∧ sgn (toks t) bb = 2 then (P (toks t) f 2 (ne + 1) [] (bb + 1)).bind fun b2 => some ([mkN 6 a b2.2 0 ([lfN 16 a 1 0] ++ [τe] ++ [τb] ++ [lfN 16 bb 1 0] ++ b2.1)], b2.2) else some ([mkN (if sgn (toks t) a = 1 then 6 else 7) a bb 0 ([lfN 16 a 1 0] ++ [τe] ++ [τb])], bb)) = some ([τ], a') := e4
  have hlb : (τe.length : Int) + (τb.length : Int) + 2 ≤ (τ.length : Int) := by
    by_cases hc : sgn (toks t) a = 1 ∧ sgn (toks t) bb = 2
    · rw [if_pos hc] at e4
      obtain ⟨b2, e5, e6⟩ := ob_some e4
      have := congrArg (fun z : Option (List (List zN) × Int) => z.elim 0 (fun y => y.1.flatten.length)) e6
      simp only [Option.elim, List.flatten_cons, List.flatten_nil, List.append_nil, mkN_len, List.flatten_append, List.length_append, lfN_len] at this
      omega
    · rw [if_neg hc] at e4
      have := congrArg (fun z : Option (List (List zN) × Int) => z.elim 0 (fun y => y.1.flatten.length)) e4
      simp only [Option.elim, List.flatten_cons, List.flatten_nil, List.append_nil, mkN_len, List.flatten_append, List.length_append, lfN_len] at this
      omega
  obtain ⟨⟨fa, fb, fc⟩, f93, f94, f95⟩ := hF
  refine hE (ne + 1) (a + 1) _ (g + 1) rl V1 M1 d Q τe eb e1 hK (by omega) fa fb (by omega) (by omega) (by omega) (by omega) (by omega) (by omega) hr0 (by omega) (fun M2 V2 x2 I2 k2 r2 x31 f2 => ?_)
  have m93 : M2 93 g = 1 := (f2.2.2.1 93 g (by decide) (by decide) (by omega)).trans f93
  have m94 : M2 94 g = 1 := (f2.2.2.1 94 g (by decide) (by decide) (by omega)).trans f94
  have m95 : M2 95 g = h := (f2.2.2.1 95 g (by decide) (by decide) (by omega)).trans f95
  refine R_it1 k2 ⟨hg, by omega⟩ m93 m94 ?_
  refine v_load rfl rfl ⟨rfl, Nat.le_of_ble_eq_true rfl⟩ ?_
  refine v_load rfl rfl ⟨rfl, Nat.le_of_ble_eq_true rfl⟩ ?_
  refine v_getp rfl rfl rfl ?_
  refine v_load rfl rfl ⟨rfl, Nat.le_of_ble_eq_true rfl⟩ ?_
  refine v_ald9 rfl rfl ⟨by omega, by show _ < (100 : Int); omega⟩ ?_
  rw [m95]
  refine v_load rfl rfl ⟨rfl, Nat.le_of_ble_eq_true rfl⟩ ?_
  refine v_getx rfl rfl (x31) ?_
  refine v_callr rfl ⟨Nat.le_of_ble_eq_true rfl, Nat.le_of_ble_eq_true rfl, rfl, Nat.le_of_ble_eq_true rfl, rfl⟩ ?_
  refine R_adds hO k2 (by omega) r2 (fun M3 V3 k3 o3 b3 => ?_)
  refine v_load rfl rfl ⟨rfl, Nat.le_of_ble_eq_true rfl⟩ ?_
  refine v_load rfl rfl ⟨rfl, Nat.le_of_ble_eq_true rfl⟩ ?_
  refine v_push rfl ?_
  refine v_push rfl ?_
  refine v_push rfl ?_
  refine v_callr rfl ⟨Nat.le_of_ble_eq_true rfl, Nat.le_of_ble_eq_true rfl, rfl, Nat.le_of_ble_eq_true rfl, rfl⟩ ?_
  refine R_goes (f := g) k3 ⟨hg, by omega⟩ (fun M4 k4 fr4 st4 b4 => ?_)
  refine v_goto rfl ?_
  refine v_ret rfl rfl ?_
  have n93 : M4 93 g = 1 := by rw [b4 93 g (by omega) (by omega), b3 93 g (by decide) (by omega)]; exact m93
  have n95 : M4 95 g = h := by rw [b4 95 g (by omega) (by omega), b3 95 g (by decide) (by omega)]; exact m95
  have f4 : KF g rl M M4 := KF_tr hf (KF_tr (KF_w f2 (by omega) (Int.le_refl _)) (KF_tr (KF_KB b3) (KF_go b4) (Int.le_refl _) (Int.le_refl _)) (Int.le_refl _) (Int.le_refl _)) (Int.le_refl _) (Int.le_refl _)
  refine ⟨rfl, hB (ne + 1) eb _ (g + 1) rl V3 M4 d Q τb bb e3 k4 (by omega) fr4.1 fr4.2.1 (by omega) (by omega) (by omega) (by omega) (by omega) (by omega) hr0 (by omega) (fun M5 V5 x5 I5 k5 r5 e5 f5 => ?_)⟩
  have p93 : M5 93 g = 1 := (f5.2.2.1 93 g (by decide) (by decide) (by omega)).trans n93
  have p94 : M5 94 g = 2 := (f5.2.2.1 94 g (by decide) (by decide) (by omega)).trans st4
  have p95 : M5 95 g = h := (f5.2.2.1 95 g (by decide) (by decide) (by omega)).trans n95
  have hh0 : 0 ≤ h := hO.1.1
  refine R_it2 k5 ⟨hg, by omega⟩ p93 p94 ?_
  refine v_load rfl rfl ⟨rfl, Nat.le_of_ble_eq_true rfl⟩ ?_
  refine v_load rfl rfl ⟨rfl, Nat.le_of_ble_eq_true rfl⟩ ?_
  refine v_getp rfl rfl rfl ?_
  refine v_load rfl rfl ⟨rfl, Nat.le_of_ble_eq_true rfl⟩ ?_
  refine v_ald9 rfl rfl ⟨by omega, by show _ < (100 : Int); omega⟩ ?_
  rw [p95]
  refine v_load rfl rfl ⟨rfl, Nat.le_of_ble_eq_true rfl⟩ ?_
  refine v_getx rfl rfl (e5) ?_
  refine v_callr rfl ⟨Nat.le_of_ble_eq_true rfl, Nat.le_of_ble_eq_true rfl, rfl, Nat.le_of_ble_eq_true rfl, rfl⟩ ?_
  refine R_adds o3 k5 (by omega) r5 (fun M6 V6 k6 o6 b6 => ?_)
  have p95' : M6 95 g = h := by rw [b6 95 g (by decide) (by omega)]; exact p95
  have x85 : M6 85 h = so := by rw [(k6.2.2.1 h hh0 (by omega)).1]; exact o6.1.2.1
  refine v_load rfl rfl ⟨rfl, Nat.le_of_ble_eq_true rfl⟩ ?_
  refine v_getp rfl rfl rfl ?_
  refine v_load rfl rfl ⟨rfl, Nat.le_of_ble_eq_true rfl⟩ ?_
  refine v_getp rfl rfl rfl ?_
  refine v_load rfl rfl ⟨rfl, Nat.le_of_ble_eq_true rfl⟩ ?_
  refine v_ald9 rfl rfl ⟨by omega, by show _ < (100 : Int); omega⟩ ?_
  rw [p95']
  refine v_ald9 rfl rfl ⟨by omega, by show _ < (1600 : Int); omega⟩ ?_
  rw [x85]
  have p93' : M6 93 g = 1 := by rw [b6 93 g (by decide) (by omega)]; exact p93
  have f6 : KF g rl M M6 := KF_tr f4 (KF_tr (KF_w f5 (by omega) (Int.le_refl _)) (KF_KB b6) (Int.le_refl _) (Int.le_refl _)) (Int.le_refl _) (Int.le_refl _)
  by_cases hc : sgn (toks t) a = 1 ∧ sgn (toks t) bb = 2
  · rw [if_pos hc] at e4
    rw [if_pos hc.1] at hso
    have hwb := sgn_word hT (i := bb) (by omega)
    have hltb := (sgn_lt (T := toks t) (i := bb) (by omega)).2
    obtain ⟨b2, e7, e8⟩ := ob_some e4
    obtain ⟨τc, t1, t2, t3, t4⟩ := okB_one (P_ok2 hT e7 (by omega) (by omega)) (by omega)
    obtain ⟨ca, cb⟩ := b2
    have t1 : ca = [τc] := t1
    subst t1
    have t3 : bb + 1 ≤ cb := t3
    have t4 : cb ≤ ((toks t).length : Int) := t4
    obtain ⟨rfl, rfl⟩ : mkN 6 a cb 0 ([lfN 16 a 1 0] ++ [τe] ++ [τb] ++ [lfN 16 bb 1 0] ++ [τc]) = τ ∧ cb = a' := by simpa using e8
    have hlen : (mkN 6 a cb 0 ([lfN 16 a 1 0] ++ [τe] ++ [τb] ++ [lfN 16 bb 1 0] ++ [τc])).length = τe.length + τb.length + τc.length + 3 := by rw [mkN_len]; simp only [List.flatten_append, List.flatten_cons, List.flatten_nil, List.append_nil, List.length_append, lfN_len]; omega
    rw [hlen] at hh
    refine v_push rfl ?_
    refine v_ine rfl (fun h => absurd h (by omega)) (fun _ => ?_)
    refine v_load rfl rfl ⟨rfl, Nat.le_of_ble_eq_true rfl⟩ ?_
    refine v_callr rfl ⟨Nat.le_of_ble_eq_true rfl, Nat.le_of_ble_eq_true rfl, rfl, Nat.le_of_ble_eq_true rfl, rfl⟩ ?_
    refine R_keyNext k6 ?_
    refine v_push rfl ?_
    refine v_ine rfl (fun h => absurd h (by omega)) (fun _ => ?_)
    refine v_load rfl rfl ⟨rfl, Nat.le_of_ble_eq_true rfl⟩ ?_
    refine v_load rfl rfl ⟨rfl, Nat.le_of_ble_eq_true rfl⟩ ?_
    refine v_getp rfl rfl rfl ?_
    refine v_load rfl rfl ⟨rfl, Nat.le_of_ble_eq_true rfl⟩ ?_
    refine v_ald9 rfl rfl ⟨by omega, by show _ < (100 : Int); omega⟩ ?_
    rw [p95']
    refine v_load rfl rfl ⟨rfl, Nat.le_of_ble_eq_true rfl⟩ ?_
    refine v_push rfl ?_
    refine v_callr rfl ⟨Nat.le_of_ble_eq_true rfl, Nat.le_of_ble_eq_true rfl, rfl, Nat.le_of_ble_eq_true rfl, rfl⟩ ?_
    refine R_leaf 0 k6 (by omega) (by omega) rfl (fun M7 V7 I7 k7 r7 b7 => ?_)
    refine v_callr rfl ⟨Nat.le_of_ble_eq_true rfl, Nat.le_of_ble_eq_true rfl, rfl, Nat.le_of_ble_eq_true rfl, rfl⟩ ?_
    refine R_adds o6 k7 (by omega) r7 (fun M8 V8 k8 o8 b8 => ?_)
    refine v_load rfl rfl ⟨rfl, Nat.le_of_ble_eq_true rfl⟩ ?_
    refine v_load rfl rfl ⟨rfl, Nat.le_of_ble_eq_true rfl⟩ ?_
    refine v_push rfl ?_
    refine v_push rfl ?_
    refine v_push rfl ?_
    refine v_callr rfl ⟨Nat.le_of_ble_eq_true rfl, Nat.le_of_ble_eq_true rfl, rfl, Nat.le_of_ble_eq_true rfl, rfl⟩ ?_
    refine R_goes (f := g) k8 ⟨hg, by omega⟩ (fun M9 k9 fr9 st9 b9 => ?_)
    refine v_goto rfl ?_
    refine v_ret rfl rfl ?_
    have b78 := KB_tr b7 b8
    have w93 : M9 93 g = 1 := by rw [b9 93 g (by omega) (by omega), b78 93 g (by decide) (by omega)]; exact p93'
    have w95 : M9 95 g = h := by rw [b9 95 g (by omega) (by omega), b78 95 g (by decide) (by omega)]; exact p95'
    have f9 : KF g rl M M9 := KF_tr f6 (KF_tr (KF_KB b78) (KF_go b9) (Int.le_refl _) (Int.le_refl _)) (Int.le_refl _) (Int.le_refl _)
    refine ⟨rfl, hB (ne + 1) (bb + 1) _ (g + 1) rl V8 M9 d Q τc cb e7 k9 (by omega) fr9.1 fr9.2.1 (by omega) (by omega) (by omega) (by omega) (by omega) (by omega) hr0 (by omega) (fun M10 V10 x10 I10 k10 r10 e10 f10 => ?_)⟩
    have y93 : M10 93 g = 1 := (f10.2.2.1 93 g (by decide) (by decide) (by omega)).trans w93
    have y94 : M10 94 g = 3 := (f10.2.2.1 94 g (by decide) (by decide) (by omega)).trans st9
    have y95 : M10 95 g = h := (f10.2.2.1 95 g (by decide) (by decide) (by omega)).trans w95
    refine R_it3 k10 ⟨hg, by omega⟩ y93 y94 ?_
    refine v_load rfl rfl ⟨rfl, Nat.le_of_ble_eq_true rfl⟩ ?_
    refine v_load rfl rfl ⟨rfl, Nat.le_of_ble_eq_true rfl⟩ ?_
    refine v_getp rfl rfl rfl ?_
    refine v_load rfl rfl ⟨rfl, Nat.le_of_ble_eq_true rfl⟩ ?_
    refine v_ald9 rfl rfl ⟨by omega, by show _ < (100 : Int); omega⟩ ?_
    rw [y95]
    refine v_load rfl rfl ⟨rfl, Nat.le_of_ble_eq_true rfl⟩ ?_
    refine v_getx rfl rfl (e10) ?_
    refine v_callr rfl ⟨Nat.le_of_ble_eq_true rfl, Nat.le_of_ble_eq_true rfl, rfl, Nat.le_of_ble_eq_true rfl, rfl⟩ ?_
    refine R_adds o8 k10 (by omega) r10 (fun M11 V11 k11 o11 b11 => ?_)
    refine v_load rfl rfl ⟨rfl, Nat.le_of_ble_eq_true rfl⟩ ?_
    refine v_load rfl rfl ⟨rfl, Nat.le_of_ble_eq_true rfl⟩ ?_
    refine v_callr rfl ⟨Nat.le_of_ble_eq_true rfl, Nat.le_of_ble_eq_true rfl, rfl, Nat.le_of_ble_eq_true rfl, rfl⟩ ?_
    refine R_endsNested (f := g) (x := h) (KS_55 (x := h) (up := cb) k11) ⟨by omega, by omega⟩ ⟨hg, by omega⟩ ⟨by omega, by omega⟩ (by rw [b11 95 g (by decide) (by omega)]; exact y95) (fun M12 k12 e12 b12 => ?_)
    refine v_goto rfl ?_
    refine v_ret rfl rfl ?_
    rw [show g + 1 - 1 = g by omega, show ne + 1 - 1 = ne by omega] at k12
    have r12 := g_shut (up := cb) o11
    rw [hso] at r12
    exact ⟨rfl, RL_fin (by rw [hlen]; omega) k12 r12 e12 (KF_tr f9 (KF_tr (KF_w f10 (by omega) (Int.le_refl _)) (KF_tr (KF_KB b11) (KF_eN b12) (Int.le_refl _) (Int.le_refl _)) (Int.le_refl _) (Int.le_refl _)) (Int.le_refl _) (Int.le_refl _)) k⟩
  · rw [if_neg hc, ← hso] at e4
    obtain ⟨rfl, rfl⟩ : mkN so a bb 0 ([lfN 16 a 1 0] ++ [τe] ++ [τb]) = τ ∧ bb = a' := by simpa using e4
    have hlen : (mkN so a bb 0 ([lfN 16 a 1 0] ++ [τe] ++ [τb])).length = τe.length + τb.length + 2 := by rw [mkN_len]; simp only [List.flatten_append, List.flatten_cons, List.flatten_nil, List.append_nil, List.length_append, lfN_len]; omega
    have k142 : v_wp L (d + 7) 209 142 [(2, 77), (0, g)] [] M6 (RCT L d Q) := by
      refine v_load rfl rfl ⟨rfl, Nat.le_of_ble_eq_true rfl⟩ ?_
      refine v_load rfl rfl ⟨rfl, Nat.le_of_ble_eq_true rfl⟩ ?_
      refine v_callr rfl ⟨Nat.le_of_ble_eq_true rfl, Nat.le_of_ble_eq_true rfl, rfl, Nat.le_of_ble_eq_true rfl, rfl⟩ ?_
      refine R_endsNested (f := g) (x := h) (KS_55 (x := h) (up := bb) k6) ⟨by omega, by omega⟩ ⟨hg, by omega⟩ ⟨by omega, by omega⟩ p95' (fun M12 k12 e12 b12 => ?_)
      refine v_goto rfl ?_
      refine v_ret rfl rfl ?_
      rw [show g + 1 - 1 = g by omega, show ne + 1 - 1 = ne by omega] at k12
      exact ⟨rfl, RL_fin (by rw [hlen]; omega) k12 (g_shut o6) e12 (KF_tr f6 (KF_eN b12) (Int.le_refl _) (Int.le_refl _)) k⟩
    refine v_push rfl ?_
    refine v_ine rfl (fun z1 => ?_) (fun z1 => ?_)
    · exact k142
    · refine v_load rfl rfl ⟨rfl, Nat.le_of_ble_eq_true rfl⟩ ?_
      refine v_callr rfl ⟨Nat.le_of_ble_eq_true rfl, Nat.le_of_ble_eq_true rfl, rfl, Nat.le_of_ble_eq_true rfl, rfl⟩ ?_
      refine R_keyNext k6 ?_
      refine v_push rfl ?_
      refine v_ine rfl (fun _ => ?_) (fun h => absurd h (by omega))
      exact k142
set_option maxRecDepth 4000 in
/-- a call behind its bracket: its list, its end -/
theorem rg_call (hE : RG L t f 3 3 2) (hL : RLs L t f) {ne a h g rl : Int} {V V1 M M1 : zM} {d : Nat} {Q : Option zV → zM → Prop} {qs : List (List zN)} {qb : Int} {I I' : List Int} (e1 : (if sgn (toks t) (a + 2) = 41 then some ([], a + 2) else (P (toks t) f 3 ne [] (a + 2)).bind fun e => (P (toks t) f 8 ne [] e.2).bind fun r => some ([mkN 4 (a + 2) r.2 0 (e.1 ++ r.1)], r.2)) = some (qs, qb))
    (hK : KS t (h + 3) (a + 2) (g + 1) ne rl V1 M1) (hO : OPN h V V1 h 3 a 0 ([] ++ [(h + 1, lfN 12 a 1 0, I)] ++ [(h + 2, lfN 16 (a + 1) 1 40, I')]) (h + 3)) (h93 : M1 93 g = 1) (h95 : M1 95 g = h) (hf : KF g rl M M1) (ha0 : 0 ≤ a) (hlt : a + 2 ≤ ((toks t).length : Int)) (hh : h + (qs.flatten.length : Int) + 5 ≤ 1216) (hg : 0 ≤ g) (hn0 : 0 ≤ ne) (hn1 : ne ≤ 10) (hgc : g + 3 * (10 - ne) + 3 ≤ 98) (hr0 : 0 ≤ rl) (hra : rl ≤ a)
    (k : ∀ M' V' x I, KS t (h + (qs.flatten.length : Int) + 5) (clos (toks t) 59 (clos (toks t) 41 qb).2).2 g ne rl V' M' → RES h V (h + (qs.flatten.length : Int) + 5) V' x (mkN 3 a (clos (toks t) 59 (clos (toks t) 41 qb).2).2 0 ([lfN 12 a 1 0, lfN 16 (a + 1) 1 40] ++ qs ++ [(clos (toks t) 41 qb).1, (clos (toks t) 59 (clos (toks t) 41 qb).2).1])) I → M' 77 31 = x → KF g rl M M' → RLP L d Q M') : v_call L (d + 5) 207 [(2, 77), (0, g)] M1 (RCT L d Q) := by
  have hT := tkOK_toks t
  have hl : ((toks t).length : Int) ≤ 300 := by have := hK.1.2.2.1; omega
  have hh0 : 0 ≤ h := hO.1.1
  -- the end of the call, wherever it is called
  have fin : ∀ (M2 V2 : zM) (ks : List zK) (h2 : Int) (n : Nat), KS t h2 qb (g + 1) ne rl V2 M2 → OPN h V V2 h 3 a 0 ks h2 → trs ks = [lfN 12 a 1 0, lfN 16 (a + 1) 1 40] ++ qs → M2 95 g = h → KF g rl M M2 → h2 = h + (qs.flatten.length : Int) + 3 → 0 ≤ qb ∧ qb ≤ ((toks t).length : Int) → v_call L (n + 3) 208 [(2, 77), (0, g)] M2 (RCT L d Q) := by
    intro M2 V2 ks h2 n k2 o2 t2 x2 f2 e2 hq
    refine R_endsCall o2 k2 ⟨hg, by omega⟩ x2 (by omega) (by omega) (fun M3 V3 I3 I4 k3 o3 e3 f3 => ?_)
    have r3 := g_shut (up := (clos (toks t) 59 (clos (toks t) 41 qb).2).2) o3
    rw [show h + (qs.flatten.length : Int) + 5 = h2 + 2 by omega] at k
    rw [show trs (ks ++ [(h2, (clos (toks t) 41 qb).1, I3)] ++ [(h2 + 1, (clos (toks t) 59 (clos (toks t) 41 qb).2).1, I4)]) = [lfN 12 a 1 0, lfN 16 (a + 1) 1 40] ++ qs ++ [(clos (toks t) 41 qb).1, (clos (toks t) 59 (clos (toks t) 41 qb).2).1] by rw [trs_snoc, trs_snoc, t2]; simp] at r3
    exact ⟨rfl, k M3 _ h _ (KS_55 (x := h) (up := (clos (toks t) 59 (clos (toks t) 41 qb).2).2) k3) r3 e3 (KF_tr f2 f3 (Int.le_refl _) (Int.le_refl _))⟩
  refine v_in ?_
  by_cases hc : sgn (toks t) (a + 2) = 41
  · rw [if_pos hc] at e1
    obtain ⟨rfl, rfl⟩ : [] = qs ∧ a + 2 = qb := by simpa using e1
    refine v_load rfl rfl ⟨rfl, Nat.le_of_ble_eq_true rfl⟩ ?_
    refine v_push rfl ?_
    refine v_callr rfl ⟨Nat.le_of_ble_eq_true rfl, Nat.le_of_ble_eq_true rfl, rfl, Nat.le_of_ble_eq_true rfl, rfl⟩ ?_
    refine R_isNext hK (by decide) ?_
    refine v_ifeq rfl (fun h => absurd h (by omega)) (fun _ => ?_)
    refine v_load rfl rfl ⟨rfl, Nat.le_of_ble_eq_true rfl⟩ ?_
    refine v_load rfl rfl ⟨rfl, Nat.le_of_ble_eq_true rfl⟩ ?_
    refine v_callr rfl ⟨Nat.le_of_ble_eq_true rfl, Nat.le_of_ble_eq_true rfl, rfl, Nat.le_of_ble_eq_true rfl, rfl⟩ ?_
    refine vc_mono (fin M1 V1 _ _ _ hK hO rfl h95 hf (by simp) ⟨by omega, by omega⟩) (fun rv M2 _ hc2 => ?_)
    obtain ⟨rfl, hc2⟩ := hc2
    refine v_ret rfl rfl ?_
    exact ⟨rfl, hc2⟩
  · rw [if_neg hc] at e1
    obtain ⟨e, g1, g2⟩ := ob_some e1
    obtain ⟨e', g3, g4⟩ := ob_some g2
    obtain ⟨τe, q1, q2, q3, q4, q5, q6, q7⟩ := P_ok3 hT g1 (by omega) (by omega)
    obtain ⟨ea, eb⟩ := e
    have q1 : ea = [τe] := q1
    subst q1
    have q3 : a + 2 ≤ eb := q3
    have q4 : eb ≤ ((toks t).length : Int) := q4
    obtain ⟨cs, a2⟩ := e'
    have o8 := P_ok8 hT g3 (by show (0 : Int) ≤ eb; omega) q4
    have o81 : eb ≤ a2 := o8.1
    have o82 : a2 ≤ ((toks t).length : Int) := o8.2.1
    obtain ⟨rfl, rfl⟩ : [mkN 4 (a + 2) a2 0 ([τe] ++ cs)] = qs ∧ a2 = qb := by simpa using g4
    have hfl : ((([mkN 4 (a + 2) a2 0 ([τe] ++ cs)] : List (List zN)).flatten.length : Nat) : Int) = (τe.length : Int) + (cs.flatten.length : Int) + 1 := by
      rw [show ([mkN 4 (a + 2) a2 0 ([τe] ++ cs)] : List (List zN)).flatten = mkN 4 (a + 2) a2 0 ([τe] ++ cs) by simp, mkN_len]
      simp
    rw [hfl] at hh
    refine v_load rfl rfl ⟨rfl, Nat.le_of_ble_eq_true rfl⟩ ?_
    refine v_push rfl ?_
    refine v_callr rfl ⟨Nat.le_of_ble_eq_true rfl, Nat.le_of_ble_eq_true rfl, rfl, Nat.le_of_ble_eq_true rfl, rfl⟩ ?_
    refine R_isNext hK (by decide) ?_
    refine v_ifeq rfl (fun _ => ?_) (fun h => absurd h (by omega))
    refine v_load rfl rfl ⟨rfl, Nat.le_of_ble_eq_true rfl⟩ ?_
    refine v_getp rfl rfl rfl ?_
    refine v_load rfl rfl ⟨rfl, Nat.le_of_ble_eq_true rfl⟩ ?_
    refine v_load rfl rfl ⟨rfl, Nat.le_of_ble_eq_true rfl⟩ ?_
    refine v_push rfl ?_
    refine v_callr rfl ⟨Nat.le_of_ble_eq_true rfl, Nat.le_of_ble_eq_true rfl, rfl, Nat.le_of_ble_eq_true rfl, rfl⟩ ?_
    refine R_open (a + 2) hK (by omega) ⟨rfl, by decide⟩ (fun _ => rfl) (fun M2 V2 k2 o2 b2 => ?_)
    obtain ⟨-, ⟨-, -, p27, p29, p30⟩, -, -⟩ := id k2
    have k3 : KS t (h + 3 + 1) (a + 2) (g + 1) ne rl V2 (z_upd M2 96 g (h + 3)) := KS_ch k2 (fun b j h1 _ => u_n1 (by omega)) (by rw [u_n1 (by decide)]; exact p27) (by rw [u_n1 (by decide)]; exact p29) (by rw [u_n1 (by decide)]; exact p30)
    refine v_ast9 rfl rfl (by decide) ⟨by omega, by show _ < (100 : Int); omega⟩ ?_
    refine v_load rfl rfl ⟨rfl, Nat.le_of_ble_eq_true rfl⟩ ?_
    refine v_load rfl rfl ⟨rfl, Nat.le_of_ble_eq_true rfl⟩ ?_
    refine v_push rfl ?_
    refine v_push rfl ?_
    refine v_push rfl ?_
    refine v_callr rfl ⟨Nat.le_of_ble_eq_true rfl, Nat.le_of_ble_eq_true rfl, rfl, Nat.le_of_ble_eq_true rfl, rfl⟩ ?_
    refine R_goes (f := g) k3 ⟨hg, by omega⟩ (fun M4 k4 fr4 st4 b4 => ?_)
    refine v_ret rfl rfl ?_
    have n93 : M4 93 g = 1 := by rw [b4 93 g (by omega) (by omega), u_n1 (by decide), b2 93 g (by decide) (by omega)]; exact h93
    have n95 : M4 95 g = h := by rw [b4 95 g (by omega) (by omega), u_n1 (by decide), b2 95 g (by decide) (by omega)]; exact h95
    have n96 : M4 96 g = h + 3 := by rw [b4 96 g (by omega) (by omega), u_eq]
    have f4 : KF g rl M M4 := KF_tr hf (KF_tr (KF_KB b2) (KF_tr (KF_u (by decide) (Int.le_refl _)) (KF_go b4) (Int.le_refl _) (Int.le_refl _)) (Int.le_refl _) (Int.le_refl _)) (Int.le_refl _) (Int.le_refl _)
    refine ⟨rfl, hE ne (a + 2) _ (g + 1) rl V2 M4 d Q τe eb g1 k4 (by omega) fr4.1 fr4.2.1 (by omega) (by omega) (by omega) hn0 hn1 (by omega) hr0 (by omega) (fun M5 V5 x5 I5 k5 r5 e5 f5 => ?_)⟩
    have w93 : M5 93 g = 1 := (f5.2.2.1 93 g (by decide) (by decide) (by omega)).trans n93
    have w94 : M5 94 g = 5 := (f5.2.2.1 94 g (by decide) (by decide) (by omega)).trans st4
    have w95 : M5 95 g = h := (f5.2.2.1 95 g (by decide) (by decide) (by omega)).trans n95
    have w96 : M5 96 g = h + 3 := (f5.2.2.1 96 g (by decide) (by decide) (by omega)).trans n96
    refine R_it5 k5 ⟨hg, by omega⟩ w93 w94 ?_
    refine v_load rfl rfl ⟨rfl, Nat.le_of_ble_eq_true rfl⟩ ?_
    refine v_load rfl rfl ⟨rfl, Nat.le_of_ble_eq_true rfl⟩ ?_
    refine v_getp rfl rfl rfl ?_
    refine v_load rfl rfl ⟨rfl, Nat.le_of_ble_eq_true rfl⟩ ?_
    refine v_ald9 rfl rfl ⟨by omega, by show _ < (100 : Int); omega⟩ ?_
    rw [w96]
    refine v_load rfl rfl ⟨rfl, Nat.le_of_ble_eq_true rfl⟩ ?_
    refine v_getx rfl rfl (e5) ?_
    refine v_callr rfl ⟨Nat.le_of_ble_eq_true rfl, Nat.le_of_ble_eq_true rfl, rfl, Nat.le_of_ble_eq_true rfl, rfl⟩ ?_
    refine R_adds o2 k5 (by omega) r5 (fun M6 V6 k6 o6 b6 => ?_)
    have f6 : KF g rl M M6 := KF_tr f4 (KF_tr (KF_w f5 (by omega) (Int.le_refl _)) (KF_KB b6) (Int.le_refl _) (Int.le_refl _)) (Int.le_refl _) (Int.le_refl _)
    refine hL ne eb _ g rl (h + 3) (h + 3) (a + 2) V1 V6 M6 d Q _ cs a2 g3 k6 o6 hg (by rw [b6 93 g (by decide) (by omega)]; exact w93) (by rw [b6 94 g (by decide) (by omega)]; exact w94) (by rw [b6 96 g (by decide) (by omega)]; exact w96) q4 (by omega) hn0 hn1 hgc hr0 (by omega) (fun M7 V7 ks7 k7 o7 t7 f7 => ?_)
    have v95 : M7 95 g = h := by rw [f7.2.2.1 95 g (by decide) (by decide) (by omega), b6 95 g (by decide) (by omega)]; exact w95
    have v96 : M7 96 g = h + 3 := by rw [f7.2.2.1 96 g (by decide) (by decide) (by omega), b6 96 g (by decide) (by omega)]; exact w96
    have r7 := g_shut (up := a2) o7
    rw [show trs ks7 = [τe] ++ cs by rw [t7]; simp [trs]] at r7
    refine v_load rfl rfl ⟨rfl, Nat.le_of_ble_eq_true rfl⟩ ?_
    refine v_load rfl rfl ⟨rfl, Nat.le_of_ble_eq_true rfl⟩ ?_
    refine v_getp rfl rfl rfl ?_
    refine v_load rfl rfl ⟨rfl, Nat.le_of_ble_eq_true rfl⟩ ?_
    refine v_ald9 rfl rfl ⟨by omega, by show _ < (100 : Int); omega⟩ ?_
    rw [v95]
    refine v_load rfl rfl ⟨rfl, Nat.le_of_ble_eq_true rfl⟩ ?_
    refine v_getp rfl rfl rfl ?_
    refine v_load rfl rfl ⟨rfl, Nat.le_of_ble_eq_true rfl⟩ ?_
    refine v_ald9 rfl rfl ⟨by omega, by show _ < (100 : Int); omega⟩ ?_
    rw [v96]
    refine v_callr rfl ⟨Nat.le_of_ble_eq_true rfl, Nat.le_of_ble_eq_true rfl, rfl, Nat.le_of_ble_eq_true rfl, rfl⟩ ?_
    refine R_adds hO (KS_55 (x := h + 3) (up := a2) k7) (by omega) r7 (fun M8 V8 k8 o8 b8 => ?_)
    refine v_load rfl rfl ⟨rfl, Nat.le_of_ble_eq_true rfl⟩ ?_
    refine v_load rfl rfl ⟨rfl, Nat.le_of_ble_eq_true rfl⟩ ?_
    refine v_callr rfl ⟨Nat.le_of_ble_eq_true rfl, Nat.le_of_ble_eq_true rfl, rfl, Nat.le_of_ble_eq_true rfl, rfl⟩ ?_
    refine vc_mono (fin M8 V8 _ _ _ k8 o8 rfl (by rw [b8 95 g (by decide) (by omega)]; exact v95) (KF_tr f6 (KF_tr (KF_w f7 (by omega) (Int.le_refl _)) (KF_KB b8) (Int.le_refl _) (Int.le_refl _)) (Int.le_refl _) (Int.le_refl _)) (by rw [hfl]; omega) ⟨by omega, by omega⟩) (fun rv M9 _ hc2 => ?_)
    obtain ⟨rfl, hc2⟩ := hc2
    refine v_goto rfl ?_
    refine v_ret rfl rfl ?_
    exact ⟨rfl, hc2⟩
set_option maxRecDepth 4000 in
theorem rg_1 (hE : RG L t f 3 3 2) (hB : RG L t f 2 2 4) (hI : RI L t f) (hL : RLs L t f) : RG L t (f + 1) 1 1 3 := by
  intro ne a h g rl V M d Q τ a' hp hK hg h93 h94 hal hlt hh hn0 hn1 hgc hr0 hra k
  have hlt := hlt rfl
  have hT := tkOK_toks t
  obtain ⟨⟨hX, hR⟩, ⟨p1, p2, p3, p4, p5⟩, -, r1, r2, r3, r4⟩ := id hK
  have hl : ((toks t).length : Int) ≤ 300 := by have := hR.2.1; omega
  have hτ : 1 ≤ τ.length := by
    obtain ⟨τ', x1, x2, -⟩ := P_ok1 hT hp (by omega) hlt
    have x1 : [τ] = [τ'] := x1
    cases x1
    exact List.length_pos_iff.mpr x2
  unfold P at hp
  simp only at hp
  refine R_it0 hK ⟨hg, by omega⟩ h93 h94 ?_
  refine v_load rfl rfl ⟨rfl, Nat.le_of_ble_eq_true rfl⟩ ?_
  refine v_load rfl rfl ⟨rfl, Nat.le_of_ble_eq_true rfl⟩ ?_
  refine v_callr rfl ⟨Nat.le_of_ble_eq_true rfl, Nat.le_of_ble_eq_true rfl, rfl, Nat.le_of_ble_eq_true rfl, rfl⟩ ?_
  suffices hs : v_call L (d + 6) 206 [(2, 77), (0, g)] M (RCT L d Q) by
    refine vc_mono hs (fun rv M1 _ hc => ?_)
    obtain ⟨rfl, hc⟩ := hc
    exact v_goto rfl (v_ret rfl rfl ⟨rfl, hc⟩)
  by_cases c1 : (sgn (toks t) a = 1 ∨ sgn (toks t) a = 3) ∧ ne < 10
  · rw [if_pos c1] at hp
    have h3 : h + 3 ≤ 1216 := by
      obtain ⟨e, e1, e2⟩ := ob_some hp
      obtain ⟨b, e3, e4⟩ := ob_some e2
      obtain ⟨τe, q1, q2, q3, q4, -⟩ := P_ok3 hT e1 (by omega) (by omega)
      have hb0 := okB_one (P_ok2 hT e3 (by have : a + 1 ≤ e.2 := q3; omega) q4) q4
      obtain ⟨τb, s1, s2, -⟩ := hb0
      have l1 := List.length_pos_iff.mpr q2
      have l2 := List.length_pos_iff.mpr s2
      by_cases hc : sgn (toks t) a = 1 ∧ sgn (toks t) b.2 = 2
      · rw [if_pos hc] at e4
        obtain ⟨b2, e5, e6⟩ := ob_some e4
        have := congrArg (fun z : Option (List (List zN) × Int) => z.elim 0 (fun y => y.1.flatten.length)) e6
        simp only [Option.elim, List.flatten_cons, List.flatten_nil, List.append_nil, mkN_len, List.flatten_append, List.length_append, lfN_len, q1, s1] at this
        omega
      · rw [if_neg hc] at e4
        have := congrArg (fun z : Option (List (List zN) × Int) => z.elim 0 (fun y => y.1.flatten.length)) e4
        simp only [Option.elim, List.flatten_cons, List.flatten_nil, List.append_nil, mkN_len, List.flatten_append, List.length_append, lfN_len, q1, s1] at this
        omega
    rcases c1.1 with c | c
    · exact R_biIf hK ⟨hg, by omega⟩ h93 c ⟨hn0, c1.2⟩ (by omega) (by omega) (fun M1 V1 I1 k1 o1 f1 b1 => ⟨rfl, rg_branch hE hB (so := 6) (by rw [if_pos c]) hp k1 o1 f1 b1 (by omega) hlt hh hg hn0 c1.2 hgc hr0 hra k⟩)
    · exact R_biWhile hK ⟨hg, by omega⟩ h93 c ⟨hn0, c1.2⟩ (by omega) (by omega) (fun M1 V1 I1 k1 o1 f1 b1 => ⟨rfl, rg_branch hE hB (so := 7) (by rw [if_neg (by omega)]) hp k1 o1 f1 b1 (by omega) hlt hh hg hn0 c1.2 hgc hr0 hra k⟩)
  rw [if_neg c1] at hp
  by_cases c2 : sgn (toks t) a = 123 ∧ ne < 10
  · rw [if_pos c2] at hp
    obtain ⟨q, g1, g2⟩ := ob_some hp
    obtain ⟨ts, ib⟩ := q
    obtain ⟨rfl, rfl⟩ : mkN 5 a (clos (toks t) 125 ib).2 0 ([lfN 16 a 1 123] ++ bal ts ++ [(clos (toks t) 125 ib).1]) = τ ∧ (clos (toks t) 125 ib).2 = a' := by simpa using g2
    obtain ⟨o1, o2, -⟩ := P_ok0 hT g1 (by omega) (by omega)
    have o1 : a + 1 ≤ ib := o1
    have o2 : ib ≤ ((toks t).length : Int) := o2
    have hc1 := clos_ok (T := toks t) (sg := 125) (at_ := ib) ⟨by omega, o2⟩ (by decide)
    have hlen : (mkN 5 a (clos (toks t) 125 ib).2 0 ([lfN 16 a 1 123] ++ bal ts ++ [(clos (toks t) 125 ib).1])).length = (bal ts).flatten.length + 3 := by rw [mkN_len]; simp only [List.flatten_append, List.flatten_cons, List.flatten_nil, List.append_nil, List.length_append, lfN_len, hc1.2.2]; omega
    rw [hlen] at hh
    refine R_biBlock hK ⟨hg, by omega⟩ h93 c2.1 ⟨hn0, c2.2⟩ (by omega) (by omega) (fun M1 V1 I1 k1 o1' f1 b1 => ⟨rfl, ?_⟩)
    obtain ⟨⟨fa, fb, fc⟩, f93, f94, f95⟩ := f1
    -- behind the items
    have fin : ∀ (M2 V2 : zM) (ks : List zK) (h2 : Int), KS t h2 ib (g + 1) (ne + 1) rl V2 M2 → OPN h V V2 h 5 a 0 ks h2 → trs ks = [lfN 16 a 1 123] ++ bal ts → M2 95 g = h → KF g rl M M2 → h2 = h + ((bal ts).flatten.length : Int) + 2 → v_wp L (d + 7) 209 305 [(2, 77), (0, g)] [] M2 (RCT L d Q) := by
      intro M2 V2 ks h2 k2 o2 t2 x2 f2 e2
      refine v_load rfl rfl ⟨rfl, Nat.le_of_ble_eq_true rfl⟩ ?_
      refine v_load rfl rfl ⟨rfl, Nat.le_of_ble_eq_true rfl⟩ ?_
      refine v_getp rfl rfl rfl ?_
      refine v_load rfl rfl ⟨rfl, Nat.le_of_ble_eq_true rfl⟩ ?_
      refine v_ald9 rfl rfl ⟨by omega, by show _ < (100 : Int); omega⟩ ?_
      rw [x2]
      refine v_push rfl ?_
      refine v_callr rfl ⟨Nat.le_of_ble_eq_true rfl, Nat.le_of_ble_eq_true rfl, rfl, Nat.le_of_ble_eq_true rfl, rfl⟩ ?_
      refine R_signs o2 k2 (by decide) (by omega) (by omega) (fun M3 V3 I3 k3 o3 b3 => ?_)
      refine v_load rfl rfl ⟨rfl, Nat.le_of_ble_eq_true rfl⟩ ?_
      refine v_load rfl rfl ⟨rfl, Nat.le_of_ble_eq_true rfl⟩ ?_
      refine v_callr rfl ⟨Nat.le_of_ble_eq_true rfl, Nat.le_of_ble_eq_true rfl, rfl, Nat.le_of_ble_eq_true rfl, rfl⟩ ?_
      refine R_endsNested (f := g) (x := h) (KS_55 (x := h) (up := (clos (toks t) 125 ib).2) k3) ⟨by omega, by omega⟩ ⟨hg, by omega⟩ ⟨by omega, by omega⟩ (by rw [b3 95 g (by decide) (by omega)]; exact x2) (fun M4 k4 e4 b4 => ?_)
      refine v_ret rfl rfl ?_
      rw [show g + 1 - 1 = g by omega, show ne + 1 - 1 = ne by omega] at k4
      have r4 := g_shut (up := (clos (toks t) 125 ib).2) o3
      rw [trs_snoc, t2] at r4
      exact ⟨rfl, RL_fin (by rw [hlen]; omega) k4 r4 e4 (KF_tr f2 (KF_tr (KF_KB b3) (KF_eN b4) (Int.le_refl _) (Int.le_refl _)) (Int.le_refl _) (Int.le_refl _)) k⟩
    refine hI (ne + 1) (a + 1) _ (g + 1) rl V1 M1 d Q [(0, 0, 0, 0, 0, 0)] ts ib g1 k1 hr0 (by omega) (by omega) fa fb (Or.inr ⟨by simp, fc⟩) (by omega) (by omega) (by omega) (by omega) (by omega) (fun M2 V2 e2 k2 fr2 x2 f2 => ?_) (fun M2 V2 x I τ2 e2 k2 r2 x2 f2 => ?_)
    · have m93 : M2 93 g = 1 := (f2.2.2.1 93 g (by decide) (by decide) (by omega)).trans f93
      have m94 : M2 94 g = 6 := (f2.2.2.1 94 g (by decide) (by decide) (by omega)).trans f94
      have m95 : M2 95 g = h := (f2.2.2.1 95 g (by decide) (by decide) (by omega)).trans f95
      refine R_it6 k2 ⟨hg, by omega⟩ m93 m94 ?_
      have o3 : OPN h V V2 h 5 a 0 ([] ++ [(h + 1, lfN 16 a 1 123, I1)]) (h + 2) := ⟨op_fr o1'.1 (fun j hj b b1 b2 _ => fr2 b j (by omega) (fun _ => (o1'.2.1 j hj).2)), o1'.2.1, FR_tr o1'.2.2 fr2 (by omega)⟩
      refine v_load rfl rfl ⟨rfl, Nat.le_of_ble_eq_true rfl⟩ ?_
      refine v_getx rfl rfl (x2) ?_
      refine v_push rfl ?_
      refine v_ieq rfl (fun _ => ?_) (fun h => absurd h (fun z => z rfl))
      exact fin M2 V2 _ _ k2 o3 (by rw [e2]; rfl) m95 (KF_tr b1 (KF_w f2 (by omega) (Int.le_refl _)) (Int.le_refl _) (Int.le_refl _)) (by rw [e2]; simp)
    · have m93 : M2 93 g = 1 := (f2.2.2.1 93 g (by decide) (by decide) (by omega)).trans f93
      have m94 : M2 94 g = 6 := (f2.2.2.1 94 g (by decide) (by decide) (by omega)).trans f94
      have m95 : M2 95 g = h := (f2.2.2.1 95 g (by decide) (by decide) (by omega)).trans f95
      have x0 := (tr_mem r2.1).2.1
      rw [e2, show ([τ2] : List (List zN)).flatten = τ2 by simp] at hh fin
      refine R_it6 k2 ⟨hg, by omega⟩ m93 m94 ?_
      refine v_load rfl rfl ⟨rfl, Nat.le_of_ble_eq_true rfl⟩ ?_
      refine v_getx rfl rfl (x2) ?_
      refine v_push rfl ?_
      refine v_ieq rfl (fun h => absurd h (by omega)) (fun _ => ?_)
      refine v_load rfl rfl ⟨rfl, Nat.le_of_ble_eq_true rfl⟩ ?_
      refine v_load rfl rfl ⟨rfl, Nat.le_of_ble_eq_true rfl⟩ ?_
      refine v_getp rfl rfl rfl ?_
      refine v_load rfl rfl ⟨rfl, Nat.le_of_ble_eq_true rfl⟩ ?_
      refine v_ald9 rfl rfl ⟨by omega, by show _ < (100 : Int); omega⟩ ?_
      rw [m95]
      refine v_load rfl rfl ⟨rfl, Nat.le_of_ble_eq_true rfl⟩ ?_
      refine v_getx rfl rfl (x2) ?_
      refine v_callr rfl ⟨Nat.le_of_ble_eq_true rfl, Nat.le_of_ble_eq_true rfl, rfl, Nat.le_of_ble_eq_true rfl, rfl⟩ ?_
      refine R_adds o1' k2 (by omega) r2 (fun M3 V3 k3 o3 b3 => ?_)
      exact fin M3 V3 _ _ k3 o3 (by rw [trs_snoc]; rfl) (by rw [b3 95 g (by decide) (by omega)]; exact m95) (KF_tr b1 (KF_tr (KF_w f2 (by omega) (Int.le_refl _)) (KF_KB b3) (Int.le_refl _) (Int.le_refl _)) (Int.le_refl _) (Int.le_refl _)) (by omega)
  rw [if_neg c2] at hp
  by_cases c3 : sgn (toks t) a = 59
  · rw [if_pos c3] at hp
    obtain ⟨rfl, rfl⟩ : lfN 8 a 1 0 = τ ∧ a + 1 = a' := by simpa using hp
    rw [lfN_len] at hh k
    have hw := sgn_mark hT (i := a) (by omega)
    exact R_biLeaf hK ⟨hg, by omega⟩ hlt ⟨hn0, hn1⟩ c1 c2 (fun z => hw z.1.1) (fun z => hw z.1.1) (so := 8) (by rw [if_pos c3]) (by omega) (by omega) (fun M1 V1 I k1 r1 e1 f1 => ⟨rfl, k M1 V1 h I k1 r1 e1 f1⟩)
  rw [if_neg c3] at hp
  by_cases c4 : (srt (toks t) a = 0 ∧ sgn (toks t) a = 0) ∧ sgn (toks t) (a + 1) = 61
  · rw [if_pos c4] at hp
    have hlt2 := (sgn_lt (T := toks t) (i := a + 1) (by omega)).2
    obtain ⟨e, g1, g2⟩ := ob_some hp
    obtain ⟨τe, q1, q2, q3, q4, -⟩ := P_ok3 hT g1 (by omega) (by omega)
    obtain ⟨ea, eb⟩ := e
    have q1 : ea = [τe] := q1
    subst q1
    obtain ⟨rfl, rfl⟩ : mkN 2 a (clos (toks t) 59 eb).2 0 ([lfN 12 a 1 0, lfN 16 (a + 1) 1 0] ++ [τe] ++ [(clos (toks t) 59 eb).1]) = τ ∧ (clos (toks t) 59 eb).2 = a' := by simpa using g2
    have q3 : a + 2 ≤ eb := q3
    have q4 : eb ≤ ((toks t).length : Int) := q4
    have hc1 := clos_ok (T := toks t) (sg := 59) (at_ := eb) ⟨by omega, q4⟩ (by decide)
    have hlen : (mkN 2 a (clos (toks t) 59 eb).2 0 ([lfN 12 a 1 0, lfN 16 (a + 1) 1 0] ++ [τe] ++ [(clos (toks t) 59 eb).1])).length = τe.length + 4 := by rw [mkN_len]; simp only [List.flatten_append, List.flatten_cons, List.flatten_nil, List.append_nil, List.length_append, lfN_len, hc1.2.2]; omega
    rw [hlen] at hh
    refine R_biSet hK ⟨hg, by omega⟩ h93 c4.1 c4.2 (by omega) (by omega) (fun M1 V1 I I' k1 o1 f1 b1 => ⟨rfl, ?_⟩)
    obtain ⟨⟨fa, fb, fc⟩, f93, f94, f95⟩ := f1
    refine hE ne (a + 2) _ (g + 1) rl V1 M1 d Q τe eb g1 k1 (by omega) fa fb (by omega) (by omega) (by omega) hn0 hn1 (by omega) hr0 (by omega) (fun M2 V2 x2 I2 k2 r2 e2 f2 => ?_)
    have m93 : M2 93 g = 1 := (f2.2.2.1 93 g (by decide) (by decide) (by omega)).trans f93
    have m94 : M2 94 g = 4 := (f2.2.2.1 94 g (by decide) (by decide) (by omega)).trans f94
    have m95 : M2 95 g = h := (f2.2.2.1 95 g (by decide) (by decide) (by omega)).trans f95
    refine R_it4 k2 ⟨hg, by omega⟩ m93 m94 ?_
    refine v_load rfl rfl ⟨rfl, Nat.le_of_ble_eq_true rfl⟩ ?_
    refine v_load rfl rfl ⟨rfl, Nat.le_of_ble_eq_true rfl⟩ ?_
    refine v_getp rfl rfl rfl ?_
    refine v_load rfl rfl ⟨rfl, Nat.le_of_ble_eq_true rfl⟩ ?_
    refine v_ald9 rfl rfl ⟨by omega, by show _ < (100 : Int); omega⟩ ?_
    rw [m95]
    refine v_load rfl rfl ⟨rfl, Nat.le_of_ble_eq_true rfl⟩ ?_
    refine v_getx rfl rfl (e2) ?_
    refine v_callr rfl ⟨Nat.le_of_ble_eq_true rfl, Nat.le_of_ble_eq_true rfl, rfl, Nat.le_of_ble_eq_true rfl, rfl⟩ ?_
    refine R_adds o1 k2 (by omega) r2 (fun M3 V3 k3 o3 b3 => ?_)
    refine v_load rfl rfl ⟨rfl, Nat.le_of_ble_eq_true rfl⟩ ?_
    refine v_load rfl rfl ⟨rfl, Nat.le_of_ble_eq_true rfl⟩ ?_
    refine v_getp rfl rfl rfl ?_
    refine v_load rfl rfl ⟨rfl, Nat.le_of_ble_eq_true rfl⟩ ?_
    refine v_ald9 rfl rfl ⟨by omega, by show _ < (100 : Int); omega⟩ ?_
    rw [b3 95 g (by decide) (by omega), m95]
    refine v_push rfl ?_
    refine v_callr rfl ⟨Nat.le_of_ble_eq_true rfl, Nat.le_of_ble_eq_true rfl, rfl, Nat.le_of_ble_eq_true rfl, rfl⟩ ?_
    refine R_signs o3 k3 (by decide) (by omega) (by omega) (fun M4 V4 I4 k4 o4 b4 => ?_)
    refine v_load rfl rfl ⟨rfl, Nat.le_of_ble_eq_true rfl⟩ ?_
    refine v_load rfl rfl ⟨rfl, Nat.le_of_ble_eq_true rfl⟩ ?_
    refine v_getp rfl rfl rfl ?_
    refine v_load rfl rfl ⟨rfl, Nat.le_of_ble_eq_true rfl⟩ ?_
    refine v_ald9 rfl rfl ⟨by omega, by show _ < (100 : Int); omega⟩ ?_
    rw [b4 95 g (by decide) (by omega), b3 95 g (by decide) (by omega), m95]
    refine v_callr rfl ⟨Nat.le_of_ble_eq_true rfl, Nat.le_of_ble_eq_true rfl, rfl, Nat.le_of_ble_eq_true rfl, rfl⟩ ?_
    refine R_ends (KS_55 (x := h) (up := (clos (toks t) 59 eb).2) k4) ⟨by omega, by omega⟩ (fun M5 k5 e5 b5 => ?_)
    refine v_goto rfl ?_
    refine v_ret rfl rfl ?_
    rw [show g + 1 - 1 = g by omega] at k5
    exact ⟨rfl, RL_fin (by rw [hlen]; omega) k5 (g_shut o4) e5 (KF_tr b1 (KF_tr (KF_w f2 (by omega) (Int.le_refl _)) (KF_tr (KF_KB (KB_tr b3 b4)) (KF_en b5) (Int.le_refl _) (Int.le_refl _)) (Int.le_refl _) (Int.le_refl _)) (Int.le_refl _) (Int.le_refl _)) k⟩
  rw [if_neg c4] at hp
  by_cases c5 : (srt (toks t) a = 0 ∧ sgn (toks t) a = 0) ∧ sgn (toks t) (a + 1) = 40
  · rw [if_pos c5] at hp
    have hlt2 := (sgn_lt (T := toks t) (i := a + 1) (by omega)).2
    obtain ⟨q, g1, g2⟩ := ob_some hp
    obtain ⟨qs, qb⟩ := q
    obtain ⟨rfl, rfl⟩ : mkN 3 a (clos (toks t) 59 (clos (toks t) 41 qb).2).2 0 ([lfN 12 a 1 0, lfN 16 (a + 1) 1 40] ++ qs ++ [(clos (toks t) 41 qb).1, (clos (toks t) 59 (clos (toks t) 41 qb).2).1]) = τ ∧ (clos (toks t) 59 (clos (toks t) 41 qb).2).2 = a' := by simpa using g2
    have hqb := g_qb hT g1 (by omega)
    have hc1 := clos_ok (T := toks t) (sg := 41) (at_ := qb) hqb (by decide)
    have hc2 := clos_ok (T := toks t) (sg := 59) (at_ := (clos (toks t) 41 qb).2) ⟨by omega, hc1.2.1⟩ (by decide)
    have hlen : (mkN 3 a (clos (toks t) 59 (clos (toks t) 41 qb).2).2 0 ([lfN 12 a 1 0, lfN 16 (a + 1) 1 40] ++ qs ++ [(clos (toks t) 41 qb).1, (clos (toks t) 59 (clos (toks t) 41 qb).2).1])).length = qs.flatten.length + 5 := by rw [mkN_len]; simp only [List.flatten_append, List.flatten_cons, List.flatten_nil, List.append_nil, List.length_append, lfN_len, hc1.2.2, hc2.2.2]; omega
    rw [hlen] at hh
    refine R_biCall hK ⟨hg, by omega⟩ h93 c5.1 c5.2 (by omega) (by omega) (fun M1 V1 I I' k1 o1 x1 y1 f1 => ?_)
    refine vc_mono (rg_call (d := d) (Q := Q) hE hL g1 k1 o1 x1 y1 f1 (by omega) (by omega) (by omega) hg hn0 hn1 hgc hr0 hra (fun M2 V2 x2 I2 k2 r2 e2 f2 => ?_)) (fun rv M2 _ hc => ⟨hc.1, ⟨rfl, hc.2⟩⟩)
    exact RL_fin (by rw [hlen]; omega) k2 r2 e2 f2 k
  · rw [if_neg c5] at hp
    obtain ⟨rfl, rfl⟩ : lfN 9 a 1 0 = τ ∧ a + 1 = a' := by simpa using hp
    rw [lfN_len] at hh k
    exact R_biLeaf hK ⟨hg, by omega⟩ hlt ⟨hn0, hn1⟩ c1 c2 c4 c5 (so := 9) (by rw [if_neg c3]) (by omega) (by omega) (fun M1 V1 I k1 r1 e1 f1 => ⟨rfl, k M1 V1 h I k1 r1 e1 f1⟩)
/-- all modes at once -/
theorem rg_every (L : Nat) (t : List Int) : ∀ f, RG L t f 3 3 2 ∧ RG L t f 4 4 1 ∧ RG L t f 5 5 0 ∧ RL L t f 6 3 2 ∧ RL L t f 7 4 1 ∧ RLs L t f ∧ RG L t f 1 1 3 ∧ RG L t f 2 2 4 ∧ RIl L t f
  | 0 => by
    refine ⟨?_, ?_, ?_, ?_, ?_, ?_, ?_, ?_, ?_⟩
    · intro ne a h g rl V M d Q τ a' hp; simp [P] at hp
    · intro ne a h g rl V M d Q τ a' hp; simp [P] at hp
    · intro ne a h g rl V M d Q τ a' hp; simp [P] at hp
    · intro ne a h g rl lo x V0 V M d Q le τ I a' w hp; simp [P] at hp
    · intro ne a h g rl lo x V0 V M d Q le τ I a' w hp; simp [P] at hp
    · intro ne a h g rl lo x fr V0 V M d Q ks cs a' hp; simp [P] at hp
    · intro ne a h g rl V M d Q τ a' hp; simp [P] at hp
    · intro ne a h g rl V M d Q τ a' hp; simp [P] at hp
    · intro ne a h g rl rl0 lo V0 V M d Q ks le ts a' hp; simp [P] at hp
  | f + 1 => by
    obtain ⟨i1, i2, i3, i4, i5, i6, i7, i8, i9⟩ := rg_every L t f
    exact ⟨rg_3 i2 i4, rg_4 i3 i5, rg_5 i1, rl_6 i2 i4, rl_7 i3 i5, rls_8 i1 i6, rg_1 i1 i8 (ri_0 i9) i6, rg_2 i7, ril_0 i7 i9⟩
end RT3
