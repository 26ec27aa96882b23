/-! THE REFERENCE'S PARSER: items -/
theorem RWS_push {lo h h1 x : Int} {V0 V V1 : zM} {ks : List zK} {τ : List zN} {I : List Int} (hW : RWS lo V0 V ks h) (hR : RES h V h1 V1 x τ I) (hl : lo ≤ h) (hh : h ≤ h1) : RWS lo V0 V1 (ks ++ [(x, τ, I)]) h1 := by
  obtain ⟨w1, w2, w3, w4⟩ := hW
  obtain ⟨r1, r2, r3, r4⟩ := hR
  refine ⟨?_, ?_, ?_, FR_tr w4 r3 hl⟩
  · intro k hk
    rcases List.mem_append.mp hk with hk | hk
    · have hw := w1 k hk
      refine ⟨tr_fr hw.1 (fun j hj b b1 b2 _ _ => r3 b j (by omega) (fun _ => (w3 j (ids_mem hk hj)).2)), ?_⟩
      rw [r3 60 k.1 (by decide) (fun _ => (w3 _ (ids_mem hk (tr_mem hw.1).1)).2)]; exact hw.2
    · have := List.mem_singleton.mp hk
      subst this
      exact ⟨r1, r4⟩
  · rw [ids_snoc]
    refine List.nodup_append.mpr ⟨w2, (tr_mem r1).2.2.1, fun i hi j hj e => ?_⟩
    have h1 := w3 i hi
    have h2 := r2 j hj
    omega
  · intro i hi
    rw [ids_snoc] at hi
    rcases List.mem_append.mp hi with hi | hi
    · have := w3 i hi; omega
    · have := r2 i hi; omega
theorem rowAt_snoc {M : zM} {k : zK} : ∀ (ks : List zK) (i : Int), rowAt M i ks → M 97 (i + (ks.length : Int)) = k.1 → rowAt M i (ks ++ [k])
  | [], i, _, h => ⟨by simpa using h, trivial⟩
  | q :: ks, i, h, h2 => ⟨h.1, rowAt_snoc ks (i + 1) h.2 (by rw [show i + 1 + (ks.length : Int) = i + (((q :: ks).length : Nat) : Int) by simp; omega]; exact h2)⟩
/-- items behind their first ones -/
def RIl (L : Nat) (t : List Int) (f : Nat) : Prop := ∀ (ne a h g rl rl0 lo : Int) (V0 V M : zM) (d : Nat) (Q : Option zV → zM → Prop) (ks : List zK) (le : List zN) (ts : List (List zN)) (a' : Int), P (toks t) f 0 ne le a = some (ts, a') → KS t h a (g + 1) ne rl V M → RWS lo V0 V ks h → rowAt M rl0 ks → rl = rl0 + (ks.length : Int) → 0 ≤ rl0 → rl ≤ a → lo ≤ h → 0 ≤ g → M 93 g = 0 → M 94 g = 1 → M 95 g = rl0 → (le = [] ∧ M 96 g = 0 ∨ le ≠ [] ∧ M 96 g = 1) → a ≤ ((toks t).length : Int) → h + (ts.flatten.length : Int) + (ks.length : Int) + (ts.length : Int) ≤ 1217 → 0 ≤ ne → ne ≤ 10 → g + 3 * (10 - ne) + 4 ≤ 98 →
  (∀ M' V', trs ks ++ ts = [] → KS t h a' g ne rl0 V' M' → FR lo V0 V' → M' 77 31 = -1 → KF g rl0 M M' → RLP L d Q M') →
  (∀ M' V' x I, trs ks ++ ts ≠ [] → KS t (h + (ts.flatten.length : Int) + (ks.length : Int) + (ts.length : Int) - 1) a' g ne rl0 V' M' → RES lo V0 (h + (ts.flatten.length : Int) + (ks.length : Int) + (ts.length : Int) - 1) V' x (balT (trs ks ++ ts)) I → M' 77 31 = x → KF g rl0 M M' → RLP L d Q M') → RLP L d Q M
/-- items -/
def RI (L : Nat) (t : List Int) (f : Nat) : Prop := ∀ (ne a h g rl : Int) (V M : zM) (d : Nat) (Q : Option zV → zM → Prop) (le : List zN) (ts : List (List zN)) (a' : Int), P (toks t) f 0 ne le a = some (ts, a') → KS t h a (g + 1) ne rl V M → 0 ≤ rl → rl ≤ a → 0 ≤ g → M 93 g = 0 → M 94 g = 0 → (le = [] ∧ M 96 g = 0 ∨ le ≠ [] ∧ M 96 g = 1) → a ≤ ((toks t).length : Int) → h + ((bal ts).flatten.length : Int) ≤ 1216 → 0 ≤ ne → ne ≤ 10 → g + 3 * (10 - ne) + 4 ≤ 98 →
  (∀ M' V', bal ts = [] → KS t h a' g ne rl V' M' → FR h V V' → M' 77 31 = -1 → KF g rl M M' → RLP L d Q M') →
  (∀ M' V' x I τ, bal ts = [τ] → KS t (h + (τ.length : Int)) a' g ne rl V' M' → RES h V (h + (τ.length : Int)) V' x τ I → M' 77 31 = x → KF g rl M M' → RLP L d Q M') → RLP L d Q M
section RT1
variable {L : Nat} {t : List Int} {f : Nat}
theorem KF_row {g rl i x : Int} {M : zM} (h : rl ≤ i) : KF g rl M (z_upd M 97 i x) := ⟨fun b j h1 h2 => u_n1 (by omega), fun j _ _ => u_n1 (by decide), fun b j h1 h2 _ => u_n1 (by omega), fun j hj => u_n2 (by omega)⟩
theorem KF_30 {g rl x : Int} {M : zM} : KF g rl M (z_upd M 77 30 x) := ⟨fun b j h1 h2 => u_n1 h1, fun j _ h2 => u_n2 (by omega), fun b j h1 h2 _ => u_n1 (by omega), fun j hj => u_n1 (by decide)⟩
theorem ril_0 (hI : RG L t f 1 1 3) (hL : RIl L t f) : RIl L t (f + 1) := by
  intro ne a h g rl rl0 lo V0 V M d Q ks le ts a' hp hK hW hrow hrl hr0 hra hlo hg h93 h94 h95 h96 hal hh hn0 hn1 hgc k0 k1
  have hT := tkOK_toks t
  obtain ⟨⟨hX, hR⟩, ⟨p1, p2, p3, p4, p5⟩, -, r1, r2, r3, r4⟩ := id hK
  have hl : ((toks t).length : Int) ≤ 300 := by have := hR.2.1; omega
  have p6 := hR.1
  unfold P at hp
  simp only at hp
  by_cases hc : ¬ a < ((toks t).length : Int) ∨ (le ≠ [] ∧ sgn (toks t) a = 125)
  · rw [if_pos hc] at hp
    obtain ⟨rfl, rfl⟩ : [] = ts ∧ a = a' := by simpa using hp
    rw [List.append_nil] at k0 k1
    rw [show ((([] : List (List zN)).flatten.length : Nat) : Int) = 0 from rfl, show ((([] : List (List zN)).length : Nat) : Int) = 0 from rfl] at hh k1
    refine R_step0 hK ⟨hg, by omega⟩ h93 ?_
    refine v_in ?_
    have k102 : v_wp L (d + 7) 202 102 (z_ent (z_ml 202) [(2, 77), (0, g)]) [] M (RCT L d Q) := by
      refine v_load rfl rfl ⟨rfl, Nat.le_of_ble_eq_true rfl⟩ ?_
      refine v_load rfl rfl ⟨rfl, Nat.le_of_ble_eq_true rfl⟩ ?_
      refine v_getp rfl rfl rfl ?_
      refine v_load rfl rfl ⟨rfl, Nat.le_of_ble_eq_true rfl⟩ ?_
      refine v_ald9 rfl rfl ⟨by omega, by show _ < (100 : Int); omega⟩ ?_
      rw [h95]
      refine v_callr rfl ⟨Nat.le_of_ble_eq_true rfl, Nat.le_of_ble_eq_true rfl, rfl, Nat.le_of_ble_eq_true rfl, rfl⟩ ?_
      refine R_balances hK hW hrow hrl hr0 (by omega) (by omega) (fun M1 V1 e1 s1 fr1 c1 => ?_) (fun M1 V1 x I e1 s1 w1 c1 => ?_)
      · obtain ⟨-, ⟨-, -, p27, p29, p30⟩, -, -⟩ := id s1
        have s2 : KS t h a (g + 1) ne rl0 V1 (z_upd M1 77 30 rl0) := KS_ch s1 (fun b j h1 h2 => by
          have h3 : ¬ (b = 77 ∧ j = 30) := fun z => (h2 z.1).2.2.1 z.2
          simp only [z_upd]
          rw [if_neg h3]) (by rw [u_n2 (by decide)]; exact p27) (by rw [u_n2 (by decide)]; exact p29) u_eq
        have x95 : M1 95 g = rl0 := by rw [c1 95 g (by decide) (by decide) (by decide) (by omega)]; exact h95
        refine v_store rfl ⟨rfl, Nat.le_of_ble_eq_true rfl, Nat.le_of_ble_eq_true rfl, rfl⟩ rfl ?_
        refine v_load rfl rfl ⟨rfl, Nat.le_of_ble_eq_true rfl⟩ ?_
        refine v_load rfl rfl ⟨rfl, Nat.le_of_ble_eq_true rfl⟩ ?_
        refine v_getp rfl rfl rfl ?_
        refine v_load rfl rfl ⟨rfl, Nat.le_of_ble_eq_true rfl⟩ ?_
        refine v_ald9 rfl rfl ⟨by omega, by show _ < (100 : Int); omega⟩ ?_
        rw [x95]
        refine v_puti rfl rfl rfl ?_
        refine v_load rfl rfl ⟨rfl, Nat.le_of_ble_eq_true rfl⟩ ?_
        refine v_load rfl rfl ⟨rfl, Nat.le_of_ble_eq_true rfl⟩ ?_
        refine v_callr rfl ⟨Nat.le_of_ble_eq_true rfl, Nat.le_of_ble_eq_true rfl, rfl, Nat.le_of_ble_eq_true rfl, rfl⟩ ?_
        refine R_ends s2 ⟨by omega, by omega⟩ (fun M2 k2 e2 b2 => ?_)
        refine v_goto rfl ?_
        refine v_ret rfl rfl ?_
        rw [show g + 1 - 1 = g by omega] at k2
        exact ⟨rfl, k0 M2 V1 (by rw [e1]; rfl) k2 fr1 e2 (KF_tr (KF_KC c1) (KF_tr KF_30 (KF_en b2) (Int.le_refl _) (Int.le_refl _)) (Int.le_refl _) (Int.le_refl _))⟩
      · obtain ⟨-, ⟨-, -, p27, p29, p30⟩, -, -⟩ := id s1
        have s2 : KS t (h + (ks.length : Int) - 1) a (g + 1) ne rl0 V1 (z_upd M1 77 30 rl0) := KS_ch s1 (fun b j h1 h2 => by
          have h3 : ¬ (b = 77 ∧ j = 30) := fun z => (h2 z.1).2.2.1 z.2
          simp only [z_upd]
          rw [if_neg h3]) (by rw [u_n2 (by decide)]; exact p27) (by rw [u_n2 (by decide)]; exact p29) u_eq
        have x95 : M1 95 g = rl0 := by rw [c1 95 g (by decide) (by decide) (by decide) (by omega)]; exact h95
        refine v_store rfl ⟨rfl, Nat.le_of_ble_eq_true rfl, Nat.le_of_ble_eq_true rfl, rfl⟩ rfl ?_
        refine v_load rfl rfl ⟨rfl, Nat.le_of_ble_eq_true rfl⟩ ?_
        refine v_load rfl rfl ⟨rfl, Nat.le_of_ble_eq_true rfl⟩ ?_
        refine v_getp rfl rfl rfl ?_
        refine v_load rfl rfl ⟨rfl, Nat.le_of_ble_eq_true rfl⟩ ?_
        refine v_ald9 rfl rfl ⟨by omega, by show _ < (100 : Int); omega⟩ ?_
        rw [x95]
        refine v_puti rfl rfl rfl ?_
        refine v_load rfl rfl ⟨rfl, Nat.le_of_ble_eq_true rfl⟩ ?_
        refine v_load rfl rfl ⟨rfl, Nat.le_of_ble_eq_true rfl⟩ ?_
        refine v_callr rfl ⟨Nat.le_of_ble_eq_true rfl, Nat.le_of_ble_eq_true rfl, rfl, Nat.le_of_ble_eq_true rfl, rfl⟩ ?_
        refine R_ends s2 ⟨by omega, by omega⟩ (fun M2 k2 e2 b2 => ?_)
        refine v_goto rfl ?_
        refine v_ret rfl rfl ?_
        rw [show g + 1 - 1 = g by omega] at k2
        have eh : h + 0 + (ks.length : Int) + 0 - 1 = h + (ks.length : Int) - 1 := by omega
        rw [eh] at k1
        exact ⟨rfl, k1 M2 V1 x I (fun z => e1 (by simpa [trs] using z)) k2 w1 e2 (KF_tr (KF_KC c1) (KF_tr KF_30 (KF_en b2) (Int.le_refl _) (Int.le_refl _)) (Int.le_refl _) (Int.le_refl _))⟩
    refine v_load rfl rfl ⟨rfl, Nat.le_of_ble_eq_true rfl⟩ ?_
    refine v_getp rfl rfl rfl ?_
    refine v_load rfl rfl ⟨rfl, Nat.le_of_ble_eq_true rfl⟩ ?_
    refine v_ald9 rfl rfl ⟨by omega, by show _ < (100 : Int); omega⟩ ?_
    rw [h94]
    refine v_ifne rfl (fun _ => ?_) (fun h => absurd h (by decide))
    refine v_load rfl rfl ⟨rfl, Nat.le_of_ble_eq_true rfl⟩ ?_
    refine v_getp rfl rfl rfl ?_
    refine v_load rfl rfl ⟨rfl, Nat.le_of_ble_eq_true rfl⟩ ?_
    refine v_ald9 rfl rfl ⟨by omega, by show _ < (100 : Int); omega⟩ ?_
    rw [h94]
    refine v_push rfl ?_
    refine v_ine rfl (fun _ => ?_) (fun h => absurd h (by decide))
    refine v_load rfl rfl ⟨rfl, Nat.le_of_ble_eq_true rfl⟩ ?_
    refine v_getx rfl rfl (p2) ?_
    refine v_load rfl rfl ⟨rfl, Nat.le_of_ble_eq_true rfl⟩ ?_
    refine v_getx rfl rfl (p6) ?_
    refine v_ieq rfl (fun z1 => ?_) (fun z1 => ?_)
    · exact k102
    · refine v_load rfl rfl ⟨rfl, Nat.le_of_ble_eq_true rfl⟩ ?_
      refine v_getp rfl rfl rfl ?_
      refine v_load rfl rfl ⟨rfl, Nat.le_of_ble_eq_true rfl⟩ ?_
      refine v_ald9 rfl rfl ⟨by omega, by show _ < (100 : Int); omega⟩ ?_
      refine v_push rfl ?_
      refine v_ine rfl (fun h => absurd h (by have z2 := hc.resolve_left (fun z => z (by omega)); have := (h96.resolve_left (fun y => z2.1 y.1)).2; omega)) (fun _ => ?_)
      refine v_load rfl rfl ⟨rfl, Nat.le_of_ble_eq_true rfl⟩ ?_
      refine v_push rfl ?_
      refine v_callr rfl ⟨Nat.le_of_ble_eq_true rfl, Nat.le_of_ble_eq_true rfl, rfl, Nat.le_of_ble_eq_true rfl, rfl⟩ ?_
      refine R_isNext hK (by decide) ?_
      refine v_ifeq rfl (fun h => absurd h (by have z2 := hc.resolve_left (fun z => z (by omega)); rw [if_pos z2.2]; decide)) (fun _ => ?_)
      exact k102
  · rw [if_neg hc] at hp
    have hlt : a < ((toks t).length : Int) := by omega
    obtain ⟨e, e1, e2⟩ := ob_some hp
    obtain ⟨e', e3, e4⟩ := ob_some e2
    obtain ⟨τe, q1, q2, q3, q4, q5, q6, q7⟩ := P_ok1 hT e1 (by omega) (by omega)
    obtain ⟨ea, eb⟩ := e
    have q1 : ea = [τe] := q1
    subst q1
    have q3 : a < eb := q3
    have q4 : eb ≤ ((toks t).length : Int) := q4
    obtain ⟨ts', a2⟩ := e'
    obtain ⟨rfl, rfl⟩ : τe :: ts' = ts ∧ a2 = a' := by simpa using e4
    have hfl : (((τe :: ts').flatten.length : Nat) : Int) = (τe.length : Int) + (ts'.flatten.length : Int) := by simp
    have hfl2 : (((τe :: ts').length : Nat) : Int) = (ts'.length : Int) + 1 := by simp
    rw [hfl, hfl2] at hh k1
    refine R_step0 hK ⟨hg, by omega⟩ h93 ?_
    refine v_in ?_
    have k131 : v_wp L (d + 7) 202 131 (z_ent (z_ml 202) [(2, 77), (0, g)]) [] M (RCT L d Q) := by
      have s1 : KS t h a (g + 1) ne rl V (z_upd M 94 g 2) := KS_ch hK (fun b j h1 _ => u_n1 (by omega)) (by rw [u_n1 (by decide)]; exact p3) (by rw [u_n1 (by decide)]; exact p4) (by rw [u_n1 (by decide)]; exact p5)
      refine v_load rfl rfl ⟨rfl, Nat.le_of_ble_eq_true rfl⟩ ?_
      refine v_getp rfl rfl rfl ?_
      refine v_load rfl rfl ⟨rfl, Nat.le_of_ble_eq_true rfl⟩ ?_
      refine v_push rfl ?_
      refine v_ast9 rfl rfl (by decide) ⟨by omega, by show _ < (100 : Int); omega⟩ ?_
      refine v_load rfl rfl ⟨rfl, Nat.le_of_ble_eq_true rfl⟩ ?_
      refine v_push rfl ?_
      refine v_push rfl ?_
      refine v_callr rfl ⟨Nat.le_of_ble_eq_true rfl, Nat.le_of_ble_eq_true rfl, rfl, Nat.le_of_ble_eq_true rfl, rfl⟩ ?_
      refine R_pushes s1 ⟨by omega, by omega⟩ (fun M2 k2 fr2 b2 => ?_)
      refine v_ret rfl rfl ?_
      have m93 : M2 93 g = 0 := by rw [b2 93 g (by omega) (by omega), u_n1 (by decide)]; exact h93
      have m94 : M2 94 g = 2 := by rw [b2 94 g (by omega) (by omega), u_eq]
      have m95 : M2 95 g = rl0 := by rw [b2 95 g (by omega) (by omega), u_n1 (by decide)]; exact h95
      have m96 : M2 96 g = M 96 g := by rw [b2 96 g (by omega) (by omega), u_n1 (by decide)]
      have f2 : KF g rl M M2 := KF_tr (KF_u (by decide) (Int.le_refl _)) (KF_KP b2 (by omega)) (Int.le_refl _) (Int.le_refl _)
      refine ⟨rfl, hI ne a h (g + 1) rl V M2 d Q τe eb e1 k2 (by omega) fr2.1 fr2.2.1 hal (fun _ => hlt) (by omega) hn0 hn1 (by omega) (by omega) hra (fun M7 V7 x7 I7 k7 r7 e7 f7 => ?_)⟩
      have n93 : M7 93 g = 0 := (f7.2.2.1 93 g (by decide) (by decide) (by omega)).trans m93
      have n94 : M7 94 g = 2 := (f7.2.2.1 94 g (by decide) (by decide) (by omega)).trans m94
      have n95 : M7 95 g = rl0 := (f7.2.2.1 95 g (by decide) (by decide) (by omega)).trans m95
      have n96 : M7 96 g = M 96 g := (f7.2.2.1 96 g (by decide) (by decide) (by omega)).trans m96
      obtain ⟨-, ⟨-, -, p27, p29, p30⟩, -, -⟩ := id k7
      refine R_step0 k7 ⟨hg, by omega⟩ n93 ?_
      refine v_in ?_
      refine v_load rfl rfl ⟨rfl, Nat.le_of_ble_eq_true rfl⟩ ?_
      refine v_getp rfl rfl rfl ?_
      refine v_load rfl rfl ⟨rfl, Nat.le_of_ble_eq_true rfl⟩ ?_
      refine v_ald9 rfl rfl ⟨by omega, by show _ < (100 : Int); omega⟩ ?_
      rw [n94]
      refine v_ifne rfl (fun _ => ?_) (fun h => absurd h (by decide))
      refine v_load rfl rfl ⟨rfl, Nat.le_of_ble_eq_true rfl⟩ ?_
      refine v_getp rfl rfl rfl ?_
      refine v_load rfl rfl ⟨rfl, Nat.le_of_ble_eq_true rfl⟩ ?_
      refine v_ald9 rfl rfl ⟨by omega, by show _ < (100 : Int); omega⟩ ?_
      rw [n94]
      refine v_push rfl ?_
      refine v_ine rfl (fun h => absurd h (by decide)) (fun _ => ?_)
      refine v_load rfl rfl ⟨rfl, Nat.le_of_ble_eq_true rfl⟩ ?_
      refine v_getp rfl rfl rfl ?_
      refine v_load rfl rfl ⟨rfl, Nat.le_of_ble_eq_true rfl⟩ ?_
      refine v_getx rfl rfl (p30) ?_
      refine v_load rfl rfl ⟨rfl, Nat.le_of_ble_eq_true rfl⟩ ?_
      refine v_getx rfl rfl (e7) ?_
      refine v_ast9 rfl rfl (by decide) ⟨by omega, by show _ < (300 : Int); omega⟩ ?_
      refine v_load rfl rfl ⟨rfl, Nat.le_of_ble_eq_true rfl⟩ ?_
      refine v_load rfl rfl ⟨rfl, Nat.le_of_ble_eq_true rfl⟩ ?_
      refine v_getx rfl rfl (show _ = rl by rw [u_n1 (by decide)]; exact p30) ?_
      refine v_push rfl ?_
      refine v_add rfl (by omega) ?_
      refine v_puti rfl rfl rfl ?_
      refine v_load rfl rfl ⟨rfl, Nat.le_of_ble_eq_true rfl⟩ ?_
      refine v_getp rfl rfl rfl ?_
      refine v_load rfl rfl ⟨rfl, Nat.le_of_ble_eq_true rfl⟩ ?_
      refine v_push rfl ?_
      refine v_ast9 rfl rfl (by decide) ⟨by omega, by show _ < (100 : Int); omega⟩ ?_
      refine v_goto rfl ?_
      refine v_ret rfl rfl ?_
      have s8 : KS t (h + (τe.length : Int)) eb (g + 1) ne (rl + 1) V7 (z_upd (z_upd (z_upd M7 97 rl x7) 77 30 (rl + 1)) 94 g 1) := KS_ch k7 (fun b j h1 h2 => by
          have h3 : ¬ (b = 77 ∧ j = 30) := fun z => (h2 z.1).2.2.1 z.2
          simp only [z_upd]
          rw [if_neg (by omega), if_neg h3, if_neg (by omega)]) (by rw [u_n1 (by decide), u_n2 (by decide), u_n1 (by decide)]; exact p27) (by rw [u_n1 (by decide), u_n2 (by decide), u_n1 (by decide)]; exact p29) (by rw [u_n1 (by decide), u_eq])
      have f8 : KF g rl0 M (z_upd (z_upd (z_upd M7 97 rl x7) 77 30 (rl + 1)) 94 g 1) := KF_tr (KF_w f2 (Int.le_refl _) (by omega)) (KF_tr (KF_w f7 (by omega) (by omega)) (KF_tr (KF_row (by omega)) (KF_tr KF_30 (KF_u (by decide) (Int.le_refl _)) (Int.le_refl _) (Int.le_refl _)) (Int.le_refl _) (Int.le_refl _)) (Int.le_refl _) (Int.le_refl _)) (Int.le_refl _) (Int.le_refl _)
      have hkl : (((ks ++ [(x7, τe, I7)]).length : Nat) : Int) = (ks.length : Int) + 1 := by simp
      have htr : trs (ks ++ [(x7, τe, I7)]) ++ ts' = trs ks ++ τe :: ts' := by simp [trs]
      have row8 : rowAt (z_upd (z_upd (z_upd M7 97 rl x7) 77 30 (rl + 1)) 94 g 1) rl0 (ks ++ [(x7, τe, I7)]) := by
        refine rowAt_snoc ks rl0 (rowAt_fr ks rl0 hrow (fun j j1 j2 => ?_)) ?_
        · rw [u_n1 (by decide), u_n1 (by decide), u_n2 (by omega), f7.2.2.2 j (by omega), f2.2.2.2 j (by omega)]
        · rw [← hrl, u_n1 (by decide), u_n1 (by decide), u_eq]
      refine ⟨rfl, hL ne eb (h + (τe.length : Int)) g (rl + 1) rl0 lo V0 V7 _ d Q (ks ++ [(x7, τe, I7)]) le ts' a2 e3 s8 (RWS_push hW r7 hlo (by omega)) row8 (by omega) hr0 (by omega) (by omega) hg ?_ ?_ ?_ ?_ q4 (by omega) hn0 hn1 hgc (fun M9 V9 e9 k9 g9 h9 f9 => ?_) (fun M9 V9 x9 I9 e9 k9 g9 h9 f9 => ?_)⟩
      · rw [u_n1 (by decide), u_n1 (by decide), u_n1 (by decide)]; exact n93
      · exact u_eq
      · rw [u_n1 (by decide), u_n1 (by decide), u_n1 (by decide)]; exact n95
      · rw [u_n1 (by decide), u_n1 (by decide), u_n1 (by decide), n96]; exact h96
      · exfalso; rw [htr] at e9; simp at e9
      · rw [htr] at e9 g9
        rw [show h + (τe.length : Int) + (ts'.flatten.length : Int) + (((ks ++ [(x7, τe, I7)]).length : Nat) : Int) + (ts'.length : Int) - 1 = h + ((τe.length : Int) + (ts'.flatten.length : Int)) + (ks.length : Int) + ((ts'.length : Int) + 1) - 1 by omega] at k9 g9
        exact k1 M9 V9 x9 I9 e9 k9 g9 h9 (KF_tr f8 f9 (Int.le_refl _) (Int.le_refl _))
    refine v_load rfl rfl ⟨rfl, Nat.le_of_ble_eq_true rfl⟩ ?_
    refine v_getp rfl rfl rfl ?_
    refine v_load rfl rfl ⟨rfl, Nat.le_of_ble_eq_true rfl⟩ ?_
    refine v_ald9 rfl rfl ⟨by omega, by show _ < (100 : Int); omega⟩ ?_
    rw [h94]
    refine v_ifne rfl (fun _ => ?_) (fun h => absurd h (by decide))
    refine v_load rfl rfl ⟨rfl, Nat.le_of_ble_eq_true rfl⟩ ?_
    refine v_getp rfl rfl rfl ?_
    refine v_load rfl rfl ⟨rfl, Nat.le_of_ble_eq_true rfl⟩ ?_
    refine v_ald9 rfl rfl ⟨by omega, by show _ < (100 : Int); omega⟩ ?_
    rw [h94]
    refine v_push rfl ?_
    refine v_ine rfl (fun _ => ?_) (fun h => absurd h (by decide))
    refine v_load rfl rfl ⟨rfl, Nat.le_of_ble_eq_true rfl⟩ ?_
    refine v_getx rfl rfl (p2) ?_
    refine v_load rfl rfl ⟨rfl, Nat.le_of_ble_eq_true rfl⟩ ?_
    refine v_getx rfl rfl (p6) ?_
    refine v_ieq rfl (fun h => absurd h (by omega)) (fun _ => ?_)
    refine v_load rfl rfl ⟨rfl, Nat.le_of_ble_eq_true rfl⟩ ?_
    refine v_getp rfl rfl rfl ?_
    refine v_load rfl rfl ⟨rfl, Nat.le_of_ble_eq_true rfl⟩ ?_
    refine v_ald9 rfl rfl ⟨by omega, by show _ < (100 : Int); omega⟩ ?_
    refine v_push rfl ?_
    refine v_ine rfl (fun z1 => ?_) (fun z1 => ?_)
    · exact k131
    · refine v_load rfl rfl ⟨rfl, Nat.le_of_ble_eq_true rfl⟩ ?_
      refine v_push rfl ?_
      refine v_callr rfl ⟨Nat.le_of_ble_eq_true rfl, Nat.le_of_ble_eq_true rfl, rfl, Nat.le_of_ble_eq_true rfl, rfl⟩ ?_
      refine R_isNext hK (by decide) ?_
      refine v_ifeq rfl (fun _ => ?_) (fun h => absurd h (by rw [if_neg (fun z => hc (Or.inr ⟨(h96.resolve_left (fun y => by omega)).1, z⟩))]; decide))
      exact k131
theorem ri_0 (hL : RIl L t f) : RI L t f := by
  intro ne a h g rl V M d Q le ts a' hp hK hr0 hra hg h93 h94 h96 hal hh hn0 hn1 hgc k0 k1
  obtain ⟨⟨hX, hR⟩, ⟨p1, p2, p3, p4, p5⟩, -, r1, r2, r3, r4⟩ := id hK
  refine R_step0 hK ⟨hg, by omega⟩ h93 ?_
  refine v_in ?_
  refine v_load rfl rfl ⟨rfl, Nat.le_of_ble_eq_true rfl⟩ ?_
  refine v_getp rfl rfl rfl ?_
  refine v_load rfl rfl ⟨rfl, Nat.le_of_ble_eq_true rfl⟩ ?_
  refine v_ald9 rfl rfl ⟨by omega, by show _ < (100 : Int); omega⟩ ?_
  rw [h94]
  refine v_ifne rfl (fun h => absurd h (by decide)) (fun _ => ?_)
  refine v_load rfl rfl ⟨rfl, Nat.le_of_ble_eq_true rfl⟩ ?_
  refine v_getp rfl rfl rfl ?_
  refine v_load rfl rfl ⟨rfl, Nat.le_of_ble_eq_true rfl⟩ ?_
  refine v_load rfl rfl ⟨rfl, Nat.le_of_ble_eq_true rfl⟩ ?_
  refine v_getx rfl rfl (p5) ?_
  refine v_ast9 rfl rfl (by decide) ⟨by omega, by show _ < (100 : Int); omega⟩ ?_
  refine v_load rfl rfl ⟨rfl, Nat.le_of_ble_eq_true rfl⟩ ?_
  refine v_getp rfl rfl rfl ?_
  refine v_load rfl rfl ⟨rfl, Nat.le_of_ble_eq_true rfl⟩ ?_
  refine v_push rfl ?_
  refine v_ast9 rfl rfl (by decide) ⟨by omega, by show _ < (100 : Int); omega⟩ ?_
  refine v_goto rfl ?_
  refine v_ret rfl rfl ?_
  have s1 : KS t h a (g + 1) ne rl V (z_upd (z_upd M 95 g rl) 94 g 1) := KS_ch hK (fun b j h1 _ => by rw [u_n1 (by omega), u_n1 (by omega)]) (by rw [u_n1 (by decide), u_n1 (by decide)]; exact p3) (by rw [u_n1 (by decide), u_n1 (by decide)]; exact p4) (by rw [u_n1 (by decide), u_n1 (by decide)]; exact p5)
  have f1 : KF g rl M (z_upd (z_upd M 95 g rl) 94 g 1) := KF_tr (KF_u (by decide) (Int.le_refl _)) (KF_u (by decide) (Int.le_refl _)) (Int.le_refl _) (Int.le_refl _)
  refine ⟨rfl, hL ne a h g rl rl h V V _ d Q [] le ts a' hp s1 ⟨fun k hk => absurd hk List.not_mem_nil, by simp [ids], fun i hi => absurd hi (by simp [ids]), FR_rf⟩ trivial (by simp) hr0 hra (Int.le_refl _) hg ?_ u_eq ?_ ?_ hal ?_ hn0 hn1 hgc (fun M9 V9 e9 k9 g9 h9 f9 => ?_) (fun M9 V9 x9 I9 e9 k9 g9 h9 f9 => ?_)⟩
  · rw [u_n1 (by decide), u_n1 (by decide)]; exact h93
  · rw [u_n1 (by decide), u_eq]
  · rw [u_n1 (by decide), u_n1 (by decide)]; exact h96
  · by_cases e : ts = []
    · subst e; simp; omega
    · have := bal_len2 ts e
      simp only [List.length_nil]
      omega
  · have e9 : ts = [] := by simpa [trs] using e9
    exact k0 M9 V9 (by rw [e9]; rfl) k9 g9 h9 (KF_tr f1 f9 (Int.le_refl _) (Int.le_refl _))
  · have e9 : ts ≠ [] := by simpa [trs] using e9
    have hb := bal_T e9
    have := bal_len2 ts e9
    rw [hb, show ([balT ts] : List (List zN)).flatten = balT ts by simp] at this
    have eh : h + (ts.flatten.length : Int) + ((([] : List zK).length : Nat) : Int) + (ts.length : Int) - 1 = h + ((balT ts).length : Int) := by
      simp only [List.length_nil]
      omega
    rw [eh] at k9 g9
    have g9 : RES h V (h + ((balT ts).length : Int)) V9 x9 (balT ts) I9 := by simpa [trs] using g9
    exact k1 M9 V9 x9 I9 (balT ts) hb k9 g9 h9 (KF_tr f1 f9 (Int.le_refl _) (Int.le_refl _))
end RT1
