/-! THE REFERENCE'S PARSER: its steps; expressions -/
def RLP (L d : Nat) (Q : Option zV → zM → Prop) (M : zM) : Prop := v_wp L (d + 9) 215 37 [(2, 77), (0, 0)] [] M Q
def RCT (L d : Nat) (Q : Option zV → zM → Prop) : Option zV → zM → Prop := fun rv M => rv = none ∧ RLP L d Q M
/-- a frame of a kind brings what a mode of P says -/
def RG (L : Nat) (t : List Int) (f mo : Nat) (kd c : Int) : Prop := ∀ (ne a h g rl : Int) (V M : zM) (d : Nat) (Q : Option zV → zM → Prop) (τ : List zN) (a' : Int), P (toks t) f mo ne [] a = some ([τ], a') → KS t h a (g + 1) ne rl V M → 0 ≤ g → M 93 g = kd → M 94 g = 0 → a ≤ ((toks t).length : Int) → (mo = 1 → a < ((toks t).length : Int)) → h + (τ.length : Int) ≤ 1216 → 0 ≤ ne → ne ≤ 10 → g + 3 * (10 - ne) + c ≤ 98 → 0 ≤ rl → rl ≤ a →
  (∀ M' V' x I, KS t (h + (τ.length : Int)) a' g ne rl V' M' → RES h V (h + (τ.length : Int)) V' x τ I → M' 77 31 = x → KF g rl M M' → RLP L d Q M') → RLP L d Q M
/-- .. a row behind its left side -/
def RL (L : Nat) (t : List Int) (f mo : Nat) (kd c : Int) : Prop := ∀ (ne a h g rl lo x : Int) (V0 V M : zM) (d : Nat) (Q : Option zV → zM → Prop) (le τ : List zN) (I : List Int) (a' : Int) (w : zV), P (toks t) f mo ne le a = some ([τ], a') → KS t h a (g + 1) ne rl V M → RES lo V0 h V x le I → lo ≤ h → nUp le = a → 0 ≤ g → M 93 g = kd → M 95 g = x → a ≤ ((toks t).length : Int) → h + (τ.length : Int) - (le.length : Int) ≤ 1216 → 0 ≤ ne → ne ≤ 10 → g + 3 * (10 - ne) + c ≤ 98 → 0 ≤ rl → rl ≤ a →
  (∀ M' V' x I, KS t (h + (τ.length : Int) - (le.length : Int)) a' g ne rl V' M' → RES lo V0 (h + (τ.length : Int) - (le.length : Int)) V' x τ I → M' 77 31 = x → KF g rl M M' → RLP L d Q M') → v_wp L (d + 7) 212 64 [(2, 77), (0, g), (0, kd), w] [] M (RCT L d Q)
theorem KF_go {f rl : Int} {M M' : zM} (h : ∀ b j, (b = 77 → j ≠ 27) → (93 ≤ b ∧ b ≤ 96 → j ≠ f + 1 ∧ (b = 94 → j ≠ f)) → M' b j = M b j) : KF f rl M M' := ⟨fun b j h1 h2 => h b j (fun e => absurd e h1) (fun e => absurd e (by omega)), fun j h1 h2 => h 77 j (fun _ => by omega) (fun e => absurd e (by decide)), fun b j h1 h2 h3 => h b j (fun e => absurd e (by omega)) (fun _ => ⟨by omega, fun _ => by omega⟩), fun j _ => h 97 j (fun e => absurd e (by decide)) (fun e => absurd e (by decide))⟩
theorem KF_en {op rl : Int} {M M' : zM} (h : ∀ b j, (b = 77 → j ≠ 27 ∧ j ≠ 31) → M' b j = M b j) : KF op rl M M' := ⟨fun b j h1 h2 => h b j (fun e => absurd e h1), fun j h1 h2 => h 77 j (fun _ => by omega), fun b j h1 h2 h3 => h b j (fun e => absurd e (by omega)), fun j _ => h 97 j (fun e => absurd e (by decide))⟩
theorem KF_eN {op rl : Int} {M M' : zM} (h : ∀ b j, (b = 77 → j ≠ 27 ∧ j ≠ 29 ∧ j ≠ 31) → M' b j = M b j) : KF op rl M M' := ⟨fun b j h1 h2 => h b j (fun e => absurd e h1), fun j h1 h2 => h 77 j (fun _ => by omega), fun b j h1 h2 h3 => h b j (fun e => absurd e (by omega)), fun j _ => h 97 j (fun e => absurd e (by decide))⟩
theorem KF_u {op rl b f x : Int} {M : zM} (hb : 93 ≤ b ∧ b ≤ 96) (ho : op ≤ f) : KF op rl M (z_upd M b f x) := ⟨fun c j h1 h2 => u_n1 (by omega), fun j h1 h2 => u_n1 (by omega), fun c j h1 h2 h3 => u_n2 (by omega), fun j _ => u_n1 (by omega)⟩
theorem KF_bn {op rl f : Int} {M M' : zM} (h : ∀ b j, ¬ (85 ≤ b ∧ b ≤ 92) → (b = 77 → j ≠ 19 ∧ j ≠ 28 ∧ j ≠ 29) → (b = 95 → j ≠ f) → M' b j = M b j) (ho : op ≤ f) : KF op rl M M' := ⟨fun b j h1 h2 => h b j (by omega) (fun e => absurd e h1) (fun e => absurd e (by omega)), fun j h1 h2 => h 77 j (by decide) (fun _ => ⟨h1, by omega, by omega⟩) (fun e => absurd e (by decide)), fun b j h1 h2 h3 => h b j (by omega) (fun e => absurd e (by omega)) (fun _ => by omega), fun j _ => h 97 j (by decide) (fun e => absurd e (by decide)) (fun e => absurd e (by decide))⟩
section RS
variable {L d : Nat} {M V V0 : zM} {Q : Option zV → zM → Prop} {t : List Int} {h a g ne rl lo : Int}
theorem R_step0 (hK : KS t h a (g + 1) ne rl V M) (hg : 0 ≤ g ∧ g < 100) (hk : M 93 g = 0) (k : v_call L (d + 7) 202 [(2, 77), (0, g)] M (RCT L d Q)) : RLP L d Q M := by
  obtain ⟨-, ⟨p1, p2, p3, p4, p5⟩, -, -⟩ := hK
  unfold RLP
  refine v_load rfl rfl ⟨rfl, Nat.le_of_ble_eq_true rfl⟩ ?_
  refine v_getx rfl rfl (p3) ?_
  refine v_ifle rfl (fun h => absurd h (by omega)) (fun _ => ?_)
  refine v_load rfl rfl ⟨rfl, Nat.le_of_ble_eq_true rfl⟩ ?_
  refine v_callr rfl ⟨Nat.le_of_ble_eq_true rfl, Nat.le_of_ble_eq_true rfl, rfl, Nat.le_of_ble_eq_true rfl, rfl⟩ ?_
  refine v_in ?_
  refine v_load rfl rfl ⟨rfl, Nat.le_of_ble_eq_true rfl⟩ ?_
  refine v_getx rfl rfl (p3) ?_
  refine v_push rfl ?_
  refine v_sub rfl (by omega) ?_
  rw [show g + 1 - 1 = g by omega]
  refine v_store rfl ⟨rfl, Nat.le_of_ble_eq_true rfl, Nat.le_of_ble_eq_true rfl, rfl⟩ rfl ?_
  refine v_load rfl rfl ⟨rfl, Nat.le_of_ble_eq_true rfl⟩ ?_
  refine v_getp rfl rfl rfl ?_
  refine v_load rfl rfl ⟨rfl, Nat.le_of_ble_eq_true rfl⟩ ?_
  refine v_ald9 rfl rfl ⟨by omega, by show _ < (100 : Int); omega⟩ ?_
  rw [hk]
  refine v_tsw rfl ?_
  refine v_load rfl rfl ⟨rfl, Nat.le_of_ble_eq_true rfl⟩ ?_
  refine v_load rfl rfl ⟨rfl, Nat.le_of_ble_eq_true rfl⟩ ?_
  refine v_callr rfl ⟨Nat.le_of_ble_eq_true rfl, Nat.le_of_ble_eq_true rfl, rfl, Nat.le_of_ble_eq_true rfl, rfl⟩ ?_
  refine vc_mono k (fun rv M1 _ hc => ?_)
  obtain ⟨rfl, hc⟩ := hc
  refine v_goto rfl ?_
  refine v_ret rfl rfl ?_
  exact v_goto rfl hc
theorem R_step1 (hK : KS t h a (g + 1) ne rl V M) (hg : 0 ≤ g ∧ g < 100) (hk : M 93 g = 1) (k : v_call L (d + 7) 209 [(2, 77), (0, g)] M (RCT L d Q)) : RLP L d Q M := by
  obtain ⟨-, ⟨p1, p2, p3, p4, p5⟩, -, -⟩ := hK
  unfold RLP
  refine v_load rfl rfl ⟨rfl, Nat.le_of_ble_eq_true rfl⟩ ?_
  refine v_getx rfl rfl (p3) ?_
  refine v_ifle rfl (fun h => absurd h (by omega)) (fun _ => ?_)
  refine v_load rfl rfl ⟨rfl, Nat.le_of_ble_eq_true rfl⟩ ?_
  refine v_callr rfl ⟨Nat.le_of_ble_eq_true rfl, Nat.le_of_ble_eq_true rfl, rfl, Nat.le_of_ble_eq_true rfl, rfl⟩ ?_
  refine v_in ?_
  refine v_load rfl rfl ⟨rfl, Nat.le_of_ble_eq_true rfl⟩ ?_
  refine v_getx rfl rfl (p3) ?_
  refine v_push rfl ?_
  refine v_sub rfl (by omega) ?_
  rw [show g + 1 - 1 = g by omega]
  refine v_store rfl ⟨rfl, Nat.le_of_ble_eq_true rfl, Nat.le_of_ble_eq_true rfl, rfl⟩ rfl ?_
  refine v_load rfl rfl ⟨rfl, Nat.le_of_ble_eq_true rfl⟩ ?_
  refine v_getp rfl rfl rfl ?_
  refine v_load rfl rfl ⟨rfl, Nat.le_of_ble_eq_true rfl⟩ ?_
  refine v_ald9 rfl rfl ⟨by omega, by show _ < (100 : Int); omega⟩ ?_
  rw [hk]
  refine v_tsw rfl ?_
  refine v_load rfl rfl ⟨rfl, Nat.le_of_ble_eq_true rfl⟩ ?_
  refine v_load rfl rfl ⟨rfl, Nat.le_of_ble_eq_true rfl⟩ ?_
  refine v_callr rfl ⟨Nat.le_of_ble_eq_true rfl, Nat.le_of_ble_eq_true rfl, rfl, Nat.le_of_ble_eq_true rfl, rfl⟩ ?_
  refine vc_mono k (fun rv M1 _ hc => ?_)
  obtain ⟨rfl, hc⟩ := hc
  refine v_goto rfl ?_
  refine v_ret rfl rfl ?_
  exact v_goto rfl hc
theorem R_step2 (hK : KS t h a (g + 1) ne rl V M) (hg : 0 ≤ g ∧ g < 100) (hk : M 93 g = 2) (k : v_call L (d + 7) 210 [(2, 77), (0, g)] M (RCT L d Q)) : RLP L d Q M := by
  obtain ⟨-, ⟨p1, p2, p3, p4, p5⟩, -, -⟩ := hK
  unfold RLP
  refine v_load rfl rfl ⟨rfl, Nat.le_of_ble_eq_true rfl⟩ ?_
  refine v_getx rfl rfl (p3) ?_
  refine v_ifle rfl (fun h => absurd h (by omega)) (fun _ => ?_)
  refine v_load rfl rfl ⟨rfl, Nat.le_of_ble_eq_true rfl⟩ ?_
  refine v_callr rfl ⟨Nat.le_of_ble_eq_true rfl, Nat.le_of_ble_eq_true rfl, rfl, Nat.le_of_ble_eq_true rfl, rfl⟩ ?_
  refine v_in ?_
  refine v_load rfl rfl ⟨rfl, Nat.le_of_ble_eq_true rfl⟩ ?_
  refine v_getx rfl rfl (p3) ?_
  refine v_push rfl ?_
  refine v_sub rfl (by omega) ?_
  rw [show g + 1 - 1 = g by omega]
  refine v_store rfl ⟨rfl, Nat.le_of_ble_eq_true rfl, Nat.le_of_ble_eq_true rfl, rfl⟩ rfl ?_
  refine v_load rfl rfl ⟨rfl, Nat.le_of_ble_eq_true rfl⟩ ?_
  refine v_getp rfl rfl rfl ?_
  refine v_load rfl rfl ⟨rfl, Nat.le_of_ble_eq_true rfl⟩ ?_
  refine v_ald9 rfl rfl ⟨by omega, by show _ < (100 : Int); omega⟩ ?_
  rw [hk]
  refine v_tsw rfl ?_
  refine v_load rfl rfl ⟨rfl, Nat.le_of_ble_eq_true rfl⟩ ?_
  refine v_load rfl rfl ⟨rfl, Nat.le_of_ble_eq_true rfl⟩ ?_
  refine v_callr rfl ⟨Nat.le_of_ble_eq_true rfl, Nat.le_of_ble_eq_true rfl, rfl, Nat.le_of_ble_eq_true rfl, rfl⟩ ?_
  refine vc_mono k (fun rv M1 _ hc => ?_)
  obtain ⟨rfl, hc⟩ := hc
  refine v_goto rfl ?_
  refine v_ret rfl rfl ?_
  exact v_goto rfl hc
theorem R_step3 (hK : KS t h a (g + 1) ne rl V M) (hg : 0 ≤ g ∧ g < 100) (hk : M 93 g = 3) (k : v_call L (d + 7) 212 [(2, 77), (0, g)] M (RCT L d Q)) : RLP L d Q M := by
  obtain ⟨-, ⟨p1, p2, p3, p4, p5⟩, -, -⟩ := hK
  unfold RLP
  refine v_load rfl rfl ⟨rfl, Nat.le_of_ble_eq_true rfl⟩ ?_
  refine v_getx rfl rfl (p3) ?_
  refine v_ifle rfl (fun h => absurd h (by omega)) (fun _ => ?_)
  refine v_load rfl rfl ⟨rfl, Nat.le_of_ble_eq_true rfl⟩ ?_
  refine v_callr rfl ⟨Nat.le_of_ble_eq_true rfl, Nat.le_of_ble_eq_true rfl, rfl, Nat.le_of_ble_eq_true rfl, rfl⟩ ?_
  refine v_in ?_
  refine v_load rfl rfl ⟨rfl, Nat.le_of_ble_eq_true rfl⟩ ?_
  refine v_getx rfl rfl (p3) ?_
  refine v_push rfl ?_
  refine v_sub rfl (by omega) ?_
  rw [show g + 1 - 1 = g by omega]
  refine v_store rfl ⟨rfl, Nat.le_of_ble_eq_true rfl, Nat.le_of_ble_eq_true rfl, rfl⟩ rfl ?_
  refine v_load rfl rfl ⟨rfl, Nat.le_of_ble_eq_true rfl⟩ ?_
  refine v_getp rfl rfl rfl ?_
  refine v_load rfl rfl ⟨rfl, Nat.le_of_ble_eq_true rfl⟩ ?_
  refine v_ald9 rfl rfl ⟨by omega, by show _ < (100 : Int); omega⟩ ?_
  rw [hk]
  refine v_tsw rfl ?_
  refine v_load rfl rfl ⟨rfl, Nat.le_of_ble_eq_true rfl⟩ ?_
  refine v_load rfl rfl ⟨rfl, Nat.le_of_ble_eq_true rfl⟩ ?_
  refine v_callr rfl ⟨Nat.le_of_ble_eq_true rfl, Nat.le_of_ble_eq_true rfl, rfl, Nat.le_of_ble_eq_true rfl, rfl⟩ ?_
  refine vc_mono k (fun rv M1 _ hc => ?_)
  obtain ⟨rfl, hc⟩ := hc
  refine v_ret rfl rfl ?_
  exact v_goto rfl hc
theorem R_step4 (hK : KS t h a (g + 1) ne rl V M) (hg : 0 ≤ g ∧ g < 100) (hk : M 93 g = 4) (k : v_call L (d + 7) 212 [(2, 77), (0, g)] M (RCT L d Q)) : RLP L d Q M := by
  obtain ⟨-, ⟨p1, p2, p3, p4, p5⟩, -, -⟩ := hK
  unfold RLP
  refine v_load rfl rfl ⟨rfl, Nat.le_of_ble_eq_true rfl⟩ ?_
  refine v_getx rfl rfl (p3) ?_
  refine v_ifle rfl (fun h => absurd h (by omega)) (fun _ => ?_)
  refine v_load rfl rfl ⟨rfl, Nat.le_of_ble_eq_true rfl⟩ ?_
  refine v_callr rfl ⟨Nat.le_of_ble_eq_true rfl, Nat.le_of_ble_eq_true rfl, rfl, Nat.le_of_ble_eq_true rfl, rfl⟩ ?_
  refine v_in ?_
  refine v_load rfl rfl ⟨rfl, Nat.le_of_ble_eq_true rfl⟩ ?_
  refine v_getx rfl rfl (p3) ?_
  refine v_push rfl ?_
  refine v_sub rfl (by omega) ?_
  rw [show g + 1 - 1 = g by omega]
  refine v_store rfl ⟨rfl, Nat.le_of_ble_eq_true rfl, Nat.le_of_ble_eq_true rfl, rfl⟩ rfl ?_
  refine v_load rfl rfl ⟨rfl, Nat.le_of_ble_eq_true rfl⟩ ?_
  refine v_getp rfl rfl rfl ?_
  refine v_load rfl rfl ⟨rfl, Nat.le_of_ble_eq_true rfl⟩ ?_
  refine v_ald9 rfl rfl ⟨by omega, by show _ < (100 : Int); omega⟩ ?_
  rw [hk]
  refine v_tsw rfl ?_
  refine v_load rfl rfl ⟨rfl, Nat.le_of_ble_eq_true rfl⟩ ?_
  refine v_load rfl rfl ⟨rfl, Nat.le_of_ble_eq_true rfl⟩ ?_
  refine v_callr rfl ⟨Nat.le_of_ble_eq_true rfl, Nat.le_of_ble_eq_true rfl, rfl, Nat.le_of_ble_eq_true rfl, rfl⟩ ?_
  refine vc_mono k (fun rv M1 _ hc => ?_)
  obtain ⟨rfl, hc⟩ := hc
  refine v_ret rfl rfl ?_
  exact v_goto rfl hc
theorem R_step5 (hK : KS t h a (g + 1) ne rl V M) (hg : 0 ≤ g ∧ g < 100) (hk : M 93 g = 5) (k : v_call L (d + 7) 213 [(2, 77), (0, g)] M (RCT L d Q)) : RLP L d Q M := by
  obtain ⟨-, ⟨p1, p2, p3, p4, p5⟩, -, -⟩ := hK
  unfold RLP
  refine v_load rfl rfl ⟨rfl, Nat.le_of_ble_eq_true rfl⟩ ?_
  refine v_getx rfl rfl (p3) ?_
  refine v_ifle rfl (fun h => absurd h (by omega)) (fun _ => ?_)
  refine v_load rfl rfl ⟨rfl, Nat.le_of_ble_eq_true rfl⟩ ?_
  refine v_callr rfl ⟨Nat.le_of_ble_eq_true rfl, Nat.le_of_ble_eq_true rfl, rfl, Nat.le_of_ble_eq_true rfl, rfl⟩ ?_
  refine v_in ?_
  refine v_load rfl rfl ⟨rfl, Nat.le_of_ble_eq_true rfl⟩ ?_
  refine v_getx rfl rfl (p3) ?_
  refine v_push rfl ?_
  refine v_sub rfl (by omega) ?_
  rw [show g + 1 - 1 = g by omega]
  refine v_store rfl ⟨rfl, Nat.le_of_ble_eq_true rfl, Nat.le_of_ble_eq_true rfl, rfl⟩ rfl ?_
  refine v_load rfl rfl ⟨rfl, Nat.le_of_ble_eq_true rfl⟩ ?_
  refine v_getp rfl rfl rfl ?_
  refine v_load rfl rfl ⟨rfl, Nat.le_of_ble_eq_true rfl⟩ ?_
  refine v_ald9 rfl rfl ⟨by omega, by show _ < (100 : Int); omega⟩ ?_
  rw [hk]
  refine v_tsw rfl ?_
  refine v_load rfl rfl ⟨rfl, Nat.le_of_ble_eq_true rfl⟩ ?_
  refine v_load rfl rfl ⟨rfl, Nat.le_of_ble_eq_true rfl⟩ ?_
  refine v_callr rfl ⟨Nat.le_of_ble_eq_true rfl, Nat.le_of_ble_eq_true rfl, rfl, Nat.le_of_ble_eq_true rfl, rfl⟩ ?_
  refine vc_mono k (fun rv M1 _ hc => ?_)
  obtain ⟨rfl, hc⟩ := hc
  refine v_goto rfl ?_
  refine v_ret rfl rfl ?_
  exact v_goto rfl hc
theorem R_isSign3 {op_ : Int} (hK : KS t h a op_ ne rl V M) (k : Q (some (0, if sgn (toks t) a = 43 ∨ sgn (toks t) a = 45 then 1 else 0)) M) : v_call L (d + 1) 211 [(2, 77), (0, 3)] M Q := by
  refine v_in ?_
  refine v_load rfl rfl ⟨rfl, Nat.le_of_ble_eq_true rfl⟩ ?_
  refine v_push rfl ?_
  refine v_ine rfl (fun c1 => ?_) (fun c1 => ?_)
  · refine v_load rfl rfl ⟨rfl, Nat.le_of_ble_eq_true rfl⟩ ?_
    refine v_push rfl ?_
    refine v_callr rfl ⟨Nat.le_of_ble_eq_true rfl, Nat.le_of_ble_eq_true rfl, rfl, Nat.le_of_ble_eq_true rfl, rfl⟩ ?_
    refine R_isNext hK (by decide) ?_
    refine v_ifne rfl (fun c2 => ?_) (fun c2 => ?_)
    · refine v_push rfl ?_
      refine v_goto rfl ?_
      refine v_retz rfl (by first | exact Or.inl rfl | exact Or.inr rfl | exact b2i_01 _ | omega) ?_
      exact qeq k (by omega)
    · refine v_load rfl rfl ⟨rfl, Nat.le_of_ble_eq_true rfl⟩ ?_
      refine v_push rfl ?_
      refine v_callr rfl ⟨Nat.le_of_ble_eq_true rfl, Nat.le_of_ble_eq_true rfl, rfl, Nat.le_of_ble_eq_true rfl, rfl⟩ ?_
      refine R_isNext hK (by decide) ?_
      refine v_ifeq rfl (fun c3 => ?_) (fun c3 => ?_)
      · refine v_push rfl ?_
        refine v_retz rfl (by first | exact Or.inl rfl | exact Or.inr rfl | exact b2i_01 _ | omega) ?_
        exact qeq k (by omega)
      · refine v_push rfl ?_
        refine v_goto rfl ?_
        refine v_retz rfl (by first | exact Or.inl rfl | exact Or.inr rfl | exact b2i_01 _ | omega) ?_
        exact qeq k (by omega)
  · refine v_load rfl rfl ⟨rfl, Nat.le_of_ble_eq_true rfl⟩ ?_
    refine v_push rfl ?_
    refine v_callr rfl ⟨Nat.le_of_ble_eq_true rfl, Nat.le_of_ble_eq_true rfl, rfl, Nat.le_of_ble_eq_true rfl, rfl⟩ ?_
    refine R_isNext hK (by decide) ?_
    refine v_ifne rfl (fun c4 => ?_) (fun c4 => ?_)
    · refine v_push rfl ?_
      refine v_goto rfl ?_
      refine v_retz rfl (by first | exact Or.inl rfl | exact Or.inr rfl | exact b2i_01 _ | omega) ?_
      exact qeq k (by omega)
    · refine v_load rfl rfl ⟨rfl, Nat.le_of_ble_eq_true rfl⟩ ?_
      refine v_push rfl ?_
      refine v_callr rfl ⟨Nat.le_of_ble_eq_true rfl, Nat.le_of_ble_eq_true rfl, rfl, Nat.le_of_ble_eq_true rfl, rfl⟩ ?_
      refine R_isNext hK (by decide) ?_
      refine v_ifeq rfl (fun c5 => ?_) (fun c5 => ?_)
      · refine v_push rfl ?_
        refine v_goto rfl ?_
        refine v_retz rfl (by first | exact Or.inl rfl | exact Or.inr rfl | exact b2i_01 _ | omega) ?_
        exact qeq k (by omega)
      · refine v_push rfl ?_
        refine v_goto rfl ?_
        refine v_retz rfl (by first | exact Or.inl rfl | exact Or.inr rfl | exact b2i_01 _ | omega) ?_
        exact qeq k (by omega)
theorem R_isSign4 {op_ : Int} (hK : KS t h a op_ ne rl V M) (k : Q (some (0, if sgn (toks t) a = 42 ∨ sgn (toks t) a = 47 then 1 else 0)) M) : v_call L (d + 1) 211 [(2, 77), (0, 4)] M Q := by
  refine v_in ?_
  refine v_load rfl rfl ⟨rfl, Nat.le_of_ble_eq_true rfl⟩ ?_
  refine v_push rfl ?_
  refine v_ine rfl (fun c6 => ?_) (fun c6 => ?_)
  · refine v_load rfl rfl ⟨rfl, Nat.le_of_ble_eq_true rfl⟩ ?_
    refine v_push rfl ?_
    refine v_callr rfl ⟨Nat.le_of_ble_eq_true rfl, Nat.le_of_ble_eq_true rfl, rfl, Nat.le_of_ble_eq_true rfl, rfl⟩ ?_
    refine R_isNext hK (by decide) ?_
    refine v_ifne rfl (fun c7 => ?_) (fun c7 => ?_)
    · refine v_push rfl ?_
      refine v_goto rfl ?_
      refine v_retz rfl (by first | exact Or.inl rfl | exact Or.inr rfl | exact b2i_01 _ | omega) ?_
      exact qeq k (by omega)
    · refine v_load rfl rfl ⟨rfl, Nat.le_of_ble_eq_true rfl⟩ ?_
      refine v_push rfl ?_
      refine v_callr rfl ⟨Nat.le_of_ble_eq_true rfl, Nat.le_of_ble_eq_true rfl, rfl, Nat.le_of_ble_eq_true rfl, rfl⟩ ?_
      refine R_isNext hK (by decide) ?_
      refine v_ifeq rfl (fun c8 => ?_) (fun c8 => ?_)
      · refine v_push rfl ?_
        refine v_retz rfl (by first | exact Or.inl rfl | exact Or.inr rfl | exact b2i_01 _ | omega) ?_
        exact qeq k (by omega)
      · refine v_push rfl ?_
        refine v_goto rfl ?_
        refine v_retz rfl (by first | exact Or.inl rfl | exact Or.inr rfl | exact b2i_01 _ | omega) ?_
        exact qeq k (by omega)
  · refine v_load rfl rfl ⟨rfl, Nat.le_of_ble_eq_true rfl⟩ ?_
    refine v_push rfl ?_
    refine v_callr rfl ⟨Nat.le_of_ble_eq_true rfl, Nat.le_of_ble_eq_true rfl, rfl, Nat.le_of_ble_eq_true rfl, rfl⟩ ?_
    refine R_isNext hK (by decide) ?_
    refine v_ifne rfl (fun c9 => ?_) (fun c9 => ?_)
    · refine v_push rfl ?_
      refine v_goto rfl ?_
      refine v_retz rfl (by first | exact Or.inl rfl | exact Or.inr rfl | exact b2i_01 _ | omega) ?_
      exact qeq k (by omega)
    · refine v_load rfl rfl ⟨rfl, Nat.le_of_ble_eq_true rfl⟩ ?_
      refine v_push rfl ?_
      refine v_callr rfl ⟨Nat.le_of_ble_eq_true rfl, Nat.le_of_ble_eq_true rfl, rfl, Nat.le_of_ble_eq_true rfl, rfl⟩ ?_
      refine R_isNext hK (by decide) ?_
      refine v_ifeq rfl (fun c10 => ?_) (fun c10 => ?_)
      · refine v_push rfl ?_
        refine v_goto rfl ?_
        refine v_retz rfl (by first | exact Or.inl rfl | exact Or.inr rfl | exact b2i_01 _ | omega) ?_
        exact qeq k (by omega)
      · refine v_push rfl ?_
        refine v_goto rfl ?_
        refine v_retz rfl (by first | exact Or.inl rfl | exact Or.inr rfl | exact b2i_01 _ | omega) ?_
        exact qeq k (by omega)
end RS
