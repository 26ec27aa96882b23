/-! THE REFERENCE'S PARSER: an item, a body -/
section RT2
variable {L d : Nat} {M V V0 : zM} {Q : Option zV → zM → Prop} {t : List Int} {h a g ne rl lo : Int}
theorem R_it0 (hK : KS t h a (g + 1) ne rl V M) (hg : 0 ≤ g ∧ g < 100) (hk : M 93 g = 1) (h94 : M 94 g = 0) (k : v_wp L (d + 7) 209 44 [(2, 77), (0, g)] [] M (RCT L d Q)) : RLP L d Q M := by
  refine R_step1 hK hg hk ?_
  refine v_in ?_
  refine v_load rfl rfl ⟨rfl, Nat.le_of_ble_eq_true rfl⟩ ?_
  refine v_getp rfl rfl rfl ?_
  refine v_load rfl rfl ⟨rfl, Nat.le_of_ble_eq_true rfl⟩ ?_
  refine v_ald9 rfl rfl ⟨by omega, by show _ < (100 : Int); omega⟩ ?_
  rw [h94]
  refine v_tsw rfl ?_
  exact k
theorem R_it1 (hK : KS t h a (g + 1) ne rl V M) (hg : 0 ≤ g ∧ g < 100) (hk : M 93 g = 1) (h94 : M 94 g = 1) (k : v_wp L (d + 7) 209 52 [(2, 77), (0, g)] [] M (RCT L d Q)) : RLP L d Q M := by
  refine R_step1 hK hg hk ?_
  refine v_in ?_
  refine v_load rfl rfl ⟨rfl, Nat.le_of_ble_eq_true rfl⟩ ?_
  refine v_getp rfl rfl rfl ?_
  refine v_load rfl rfl ⟨rfl, Nat.le_of_ble_eq_true rfl⟩ ?_
  refine v_ald9 rfl rfl ⟨by omega, by show _ < (100 : Int); omega⟩ ?_
  rw [h94]
  refine v_tsw rfl ?_
  exact k
theorem R_it2 (hK : KS t h a (g + 1) ne rl V M) (hg : 0 ≤ g ∧ g < 100) (hk : M 93 g = 1) (h94 : M 94 g = 2) (k : v_wp L (d + 7) 209 77 [(2, 77), (0, g)] [] M (RCT L d Q)) : RLP L d Q M := by
  refine R_step1 hK hg hk ?_
  refine v_in ?_
  refine v_load rfl rfl ⟨rfl, Nat.le_of_ble_eq_true rfl⟩ ?_
  refine v_getp rfl rfl rfl ?_
  refine v_load rfl rfl ⟨rfl, Nat.le_of_ble_eq_true rfl⟩ ?_
  refine v_ald9 rfl rfl ⟨by omega, by show _ < (100 : Int); omega⟩ ?_
  rw [h94]
  refine v_tsw rfl ?_
  exact k
theorem R_it3 (hK : KS t h a (g + 1) ne rl V M) (hg : 0 ≤ g ∧ g < 100) (hk : M 93 g = 1) (h94 : M 94 g = 3) (k : v_wp L (d + 7) 209 150 [(2, 77), (0, g)] [] M (RCT L d Q)) : RLP L d Q M := by
  refine R_step1 hK hg hk ?_
  refine v_in ?_
  refine v_load rfl rfl ⟨rfl, Nat.le_of_ble_eq_true rfl⟩ ?_
  refine v_getp rfl rfl rfl ?_
  refine v_load rfl rfl ⟨rfl, Nat.le_of_ble_eq_true rfl⟩ ?_
  refine v_ald9 rfl rfl ⟨by omega, by show _ < (100 : Int); omega⟩ ?_
  rw [h94]
  refine v_tsw rfl ?_
  exact k
theorem R_it4 (hK : KS t h a (g + 1) ne rl V M) (hg : 0 ≤ g ∧ g < 100) (hk : M 93 g = 1) (h94 : M 94 g = 4) (k : v_wp L (d + 7) 209 172 [(2, 77), (0, g)] [] M (RCT L d Q)) : RLP L d Q M := by
  refine R_step1 hK hg hk ?_
  refine v_in ?_
  refine v_load rfl rfl ⟨rfl, Nat.le_of_ble_eq_true rfl⟩ ?_
  refine v_getp rfl rfl rfl ?_
  refine v_load rfl rfl ⟨rfl, Nat.le_of_ble_eq_true rfl⟩ ?_
  refine v_ald9 rfl rfl ⟨by omega, by show _ < (100 : Int); omega⟩ ?_
  rw [h94]
  refine v_tsw rfl ?_
  exact k
theorem R_it5 (hK : KS t h a (g + 1) ne rl V M) (hg : 0 ≤ g ∧ g < 100) (hk : M 93 g = 1) (h94 : M 94 g = 5) (k : v_wp L (d + 7) 209 211 [(2, 77), (0, g)] [] M (RCT L d Q)) : RLP L d Q M := by
  refine R_step1 hK hg hk ?_
  refine v_in ?_
  refine v_load rfl rfl ⟨rfl, Nat.le_of_ble_eq_true rfl⟩ ?_
  refine v_getp rfl rfl rfl ?_
  refine v_load rfl rfl ⟨rfl, Nat.le_of_ble_eq_true rfl⟩ ?_
  refine v_ald9 rfl rfl ⟨by omega, by show _ < (100 : Int); omega⟩ ?_
  rw [h94]
  refine v_tsw rfl ?_
  exact k
theorem R_it6 (hK : KS t h a (g + 1) ne rl V M) (hg : 0 ≤ g ∧ g < 100) (hk : M 93 g = 1) (h94 : M 94 g = 6) (k : v_wp L (d + 7) 209 283 [(2, 77), (0, g)] [] M (RCT L d Q)) : RLP L d Q M := by
  refine R_step1 hK hg hk ?_
  refine v_in ?_
  refine v_load rfl rfl ⟨rfl, Nat.le_of_ble_eq_true rfl⟩ ?_
  refine v_getp rfl rfl rfl ?_
  refine v_load rfl rfl ⟨rfl, Nat.le_of_ble_eq_true rfl⟩ ?_
  refine v_ald9 rfl rfl ⟨by omega, by show _ < (100 : Int); omega⟩ ?_
  rw [h94]
  refine v_tsw rfl ?_
  exact k
/-- a frame over frame g, of kind kd, with its nest, and what g goes on with -/
def FRM (M' : zM) (g st x kd mo : Int) : Prop := (M' 93 (g + 1) = kd ∧ M' 94 (g + 1) = 0 ∧ M' 96 (g + 1) = mo) ∧ M' 93 g = 1 ∧ M' 94 g = st ∧ M' 95 g = x
theorem R_biIf (hK : KS t h a (g + 1) ne rl V M) (hg : 0 ≤ g ∧ g < 99) (h93 : M 93 g = 1) (hs : sgn (toks t) a = 1) (hn : 0 ≤ ne ∧ ne < 10) (hh : h + 1 < 1216) (ha : a < 999) (k : ∀ M' V' I, KS t (h + 2) (a + 1) (g + 1 + 1) (ne + 1) rl V' M' → OPN h V V' h 6 a 0 ([] ++ [(h + 1, lfN 16 a 1 0, I)]) (h + 2) → FRM M' g 1 h 3 0 → KF g rl M M' → Q none M') : v_call L (d + 6) 206 [(2, 77), (0, g)] M Q := by
  have p4 := hK.2.1.2.2.2.1
  have hw := sgn_word (tkOK_toks t) (i := a) (by omega)
  refine v_in ?_
  refine v_load rfl rfl ⟨rfl, Nat.le_of_ble_eq_true rfl⟩ ?_
  refine v_callr rfl ⟨Nat.le_of_ble_eq_true rfl, Nat.le_of_ble_eq_true rfl, rfl, Nat.le_of_ble_eq_true rfl, rfl⟩ ?_
  refine R_keyNext hK ?_
  rw [if_pos hw, hs]
  refine v_store rfl ⟨rfl, Nat.le_of_ble_eq_true rfl, Nat.le_of_ble_eq_true rfl, rfl⟩ rfl ?_
  refine v_load rfl rfl ⟨rfl, Nat.le_of_ble_eq_true rfl⟩ ?_
  refine v_push rfl ?_
  refine v_ieq rfl (fun _ => ?_) (fun h => absurd h (by decide))
  refine v_load rfl rfl ⟨rfl, Nat.le_of_ble_eq_true rfl⟩ ?_
  refine v_getx rfl rfl (p4) ?_
  refine v_push rfl ?_
  refine v_ine rfl (fun _ => ?_) (fun h => absurd h (by omega))
  refine v_load rfl rfl ⟨rfl, Nat.le_of_ble_eq_true rfl⟩ ?_
  refine v_load rfl rfl ⟨rfl, Nat.le_of_ble_eq_true rfl⟩ ?_
  refine v_load rfl rfl ⟨rfl, Nat.le_of_ble_eq_true rfl⟩ ?_
  refine v_push rfl ?_
  refine v_ine rfl (fun h => absurd h (by decide)) (fun _ => ?_)
  refine v_push rfl ?_
  refine v_goto rfl ?_
  refine v_callr rfl ⟨Nat.le_of_ble_eq_true rfl, Nat.le_of_ble_eq_true rfl, rfl, Nat.le_of_ble_eq_true rfl, rfl⟩ ?_
  refine R_beginsNested (f := g) 0 hK ⟨hg.1, by omega⟩ ⟨hn.1, by omega⟩ hh ha ⟨rfl, by decide, by decide, by decide⟩ (fun M1 V1 I1 k1 o1 x1 b1 => ?_)
  refine v_load rfl rfl ⟨rfl, Nat.le_of_ble_eq_true rfl⟩ ?_
  refine v_ifle rfl (fun h => absurd h (by decide)) (fun _ => ?_)
  refine v_load rfl rfl ⟨rfl, Nat.le_of_ble_eq_true rfl⟩ ?_
  refine v_load rfl rfl ⟨rfl, Nat.le_of_ble_eq_true rfl⟩ ?_
  refine v_push rfl ?_
  refine v_push rfl ?_
  refine v_push rfl ?_
  refine v_callr rfl ⟨Nat.le_of_ble_eq_true rfl, Nat.le_of_ble_eq_true rfl, rfl, Nat.le_of_ble_eq_true rfl, rfl⟩ ?_
  refine R_goes (f := g) k1 hg (fun M2 k2 fr2 st2 b2 => ?_)
  refine v_goto rfl ?_
  refine v_ret rfl rfl ?_
  exact k M2 V1 I1 k2 o1 ⟨⟨fr2.1, fr2.2.1, fr2.2.2.2⟩, by rw [b2 93 g (by omega) (by omega), b1 93 g (by decide) (by omega) (by omega)]; exact h93, st2, by rw [b2 95 g (by omega) (by omega)]; exact x1⟩ (KF_tr (KF_bn b1 (Int.le_refl _)) (KF_go b2) (Int.le_refl _) (Int.le_refl _))
theorem R_biWhile (hK : KS t h a (g + 1) ne rl V M) (hg : 0 ≤ g ∧ g < 99) (h93 : M 93 g = 1) (hs : sgn (toks t) a = 3) (hn : 0 ≤ ne ∧ ne < 10) (hh : h + 1 < 1216) (ha : a < 999) (k : ∀ M' V' I, KS t (h + 2) (a + 1) (g + 1 + 1) (ne + 1) rl V' M' → OPN h V V' h 7 a 0 ([] ++ [(h + 1, lfN 16 a 1 0, I)]) (h + 2) → FRM M' g 1 h 3 0 → KF g rl M M' → Q none M') : v_call L (d + 6) 206 [(2, 77), (0, g)] M Q := by
  have p4 := hK.2.1.2.2.2.1
  have hw := sgn_word (tkOK_toks t) (i := a) (by omega)
  refine v_in ?_
  refine v_load rfl rfl ⟨rfl, Nat.le_of_ble_eq_true rfl⟩ ?_
  refine v_callr rfl ⟨Nat.le_of_ble_eq_true rfl, Nat.le_of_ble_eq_true rfl, rfl, Nat.le_of_ble_eq_true rfl, rfl⟩ ?_
  refine R_keyNext hK ?_
  rw [if_pos hw, hs]
  refine v_store rfl ⟨rfl, Nat.le_of_ble_eq_true rfl, Nat.le_of_ble_eq_true rfl, rfl⟩ rfl ?_
  refine v_load rfl rfl ⟨rfl, Nat.le_of_ble_eq_true rfl⟩ ?_
  refine v_push rfl ?_
  refine v_ieq rfl (fun h => absurd h (by decide)) (fun _ => ?_)
  refine v_load rfl rfl ⟨rfl, Nat.le_of_ble_eq_true rfl⟩ ?_
  refine v_push rfl ?_
  refine v_ieq rfl (fun _ => ?_) (fun h => absurd h (by decide))
  refine v_load rfl rfl ⟨rfl, Nat.le_of_ble_eq_true rfl⟩ ?_
  refine v_getx rfl rfl (p4) ?_
  refine v_push rfl ?_
  refine v_ine rfl (fun _ => ?_) (fun h => absurd h (by omega))
  refine v_load rfl rfl ⟨rfl, Nat.le_of_ble_eq_true rfl⟩ ?_
  refine v_load rfl rfl ⟨rfl, Nat.le_of_ble_eq_true rfl⟩ ?_
  refine v_load rfl rfl ⟨rfl, Nat.le_of_ble_eq_true rfl⟩ ?_
  refine v_push rfl ?_
  refine v_ine rfl (fun _ => ?_) (fun h => absurd h (by decide))
  refine v_load rfl rfl ⟨rfl, Nat.le_of_ble_eq_true rfl⟩ ?_
  refine v_push rfl ?_
  refine v_ine rfl (fun h => absurd h (by decide)) (fun _ => ?_)
  refine v_push rfl ?_
  refine v_goto rfl ?_
  refine v_callr rfl ⟨Nat.le_of_ble_eq_true rfl, Nat.le_of_ble_eq_true rfl, rfl, Nat.le_of_ble_eq_true rfl, rfl⟩ ?_
  refine R_beginsNested (f := g) 0 hK ⟨hg.1, by omega⟩ ⟨hn.1, by omega⟩ hh ha ⟨rfl, by decide, by decide, by decide⟩ (fun M1 V1 I1 k1 o1 x1 b1 => ?_)
  refine v_load rfl rfl ⟨rfl, Nat.le_of_ble_eq_true rfl⟩ ?_
  refine v_ifle rfl (fun h => absurd h (by decide)) (fun _ => ?_)
  refine v_load rfl rfl ⟨rfl, Nat.le_of_ble_eq_true rfl⟩ ?_
  refine v_load rfl rfl ⟨rfl, Nat.le_of_ble_eq_true rfl⟩ ?_
  refine v_push rfl ?_
  refine v_push rfl ?_
  refine v_push rfl ?_
  refine v_callr rfl ⟨Nat.le_of_ble_eq_true rfl, Nat.le_of_ble_eq_true rfl, rfl, Nat.le_of_ble_eq_true rfl, rfl⟩ ?_
  refine R_goes (f := g) k1 hg (fun M2 k2 fr2 st2 b2 => ?_)
  refine v_goto rfl ?_
  refine v_ret rfl rfl ?_
  exact k M2 V1 I1 k2 o1 ⟨⟨fr2.1, fr2.2.1, fr2.2.2.2⟩, by rw [b2 93 g (by omega) (by omega), b1 93 g (by decide) (by omega) (by omega)]; exact h93, st2, by rw [b2 95 g (by omega) (by omega)]; exact x1⟩ (KF_tr (KF_bn b1 (Int.le_refl _)) (KF_go b2) (Int.le_refl _) (Int.le_refl _))
/-- a mark is no word -/
theorem sgn_mark {T : List zT} (hT : tkOK T) {i : Int} (h : 4 ≤ sgn T i) : ¬ srt T i = 0 := fun z => by have := (hT i).1 z; omega
theorem R_biBlock (hK : KS t h a (g + 1) ne rl V M) (hg : 0 ≤ g ∧ g < 99) (h93 : M 93 g = 1) (hs : sgn (toks t) a = 123) (hn : 0 ≤ ne ∧ ne < 10) (hh : h + 1 < 1216) (ha : a < 999) (k : ∀ M' V' I, KS t (h + 2) (a + 1) (g + 1 + 1) (ne + 1) rl V' M' → OPN h V V' h 5 a 0 ([] ++ [(h + 1, lfN 16 a 1 123, I)]) (h + 2) → FRM M' g 6 h 0 1 → KF g rl M M' → Q none M') : v_call L (d + 6) 206 [(2, 77), (0, g)] M Q := by
  have p4 := hK.2.1.2.2.2.1
  have hw := sgn_mark (tkOK_toks t) (i := a) (by omega)
  refine v_in ?_
  refine v_load rfl rfl ⟨rfl, Nat.le_of_ble_eq_true rfl⟩ ?_
  refine v_callr rfl ⟨Nat.le_of_ble_eq_true rfl, Nat.le_of_ble_eq_true rfl, rfl, Nat.le_of_ble_eq_true rfl, rfl⟩ ?_
  refine R_keyNext hK ?_
  rw [if_neg hw]
  refine v_store rfl ⟨rfl, Nat.le_of_ble_eq_true rfl, Nat.le_of_ble_eq_true rfl, rfl⟩ rfl ?_
  refine v_load rfl rfl ⟨rfl, Nat.le_of_ble_eq_true rfl⟩ ?_
  refine v_push rfl ?_
  refine v_ieq rfl (fun h => absurd h (by decide)) (fun _ => ?_)
  refine v_load rfl rfl ⟨rfl, Nat.le_of_ble_eq_true rfl⟩ ?_
  refine v_push rfl ?_
  refine v_ieq rfl (fun h => absurd h (by decide)) (fun _ => ?_)
  refine v_load rfl rfl ⟨rfl, Nat.le_of_ble_eq_true rfl⟩ ?_
  refine v_push rfl ?_
  refine v_callr rfl ⟨Nat.le_of_ble_eq_true rfl, Nat.le_of_ble_eq_true rfl, rfl, Nat.le_of_ble_eq_true rfl, rfl⟩ ?_
  refine R_isNext hK (by decide) ?_
  refine v_ifeq rfl (fun h => absurd h (by omega)) (fun _ => ?_)
  refine v_load rfl rfl ⟨rfl, Nat.le_of_ble_eq_true rfl⟩ ?_
  refine v_getx rfl rfl (p4) ?_
  refine v_push rfl ?_
  refine v_ine rfl (fun _ => ?_) (fun h => absurd h (by omega))
  refine v_load rfl rfl ⟨rfl, Nat.le_of_ble_eq_true rfl⟩ ?_
  refine v_load rfl rfl ⟨rfl, Nat.le_of_ble_eq_true rfl⟩ ?_
  refine v_load rfl rfl ⟨rfl, Nat.le_of_ble_eq_true rfl⟩ ?_
  refine v_push rfl ?_
  refine v_ine rfl (fun _ => ?_) (fun h => absurd h (by decide))
  refine v_load rfl rfl ⟨rfl, Nat.le_of_ble_eq_true rfl⟩ ?_
  refine v_push rfl ?_
  refine v_ine rfl (fun _ => ?_) (fun h => absurd h (by decide))
  refine v_push rfl ?_
  refine v_callr rfl ⟨Nat.le_of_ble_eq_true rfl, Nat.le_of_ble_eq_true rfl, rfl, Nat.le_of_ble_eq_true rfl, rfl⟩ ?_
  refine R_beginsNested (f := g) 123 hK ⟨hg.1, by omega⟩ ⟨hn.1, by omega⟩ hh ha ⟨rfl, by decide, by decide, by decide⟩ (fun M1 V1 I1 k1 o1 x1 b1 => ?_)
  refine v_load rfl rfl ⟨rfl, Nat.le_of_ble_eq_true rfl⟩ ?_
  refine v_ifle rfl (fun _ => ?_) (fun h => absurd h (by decide))
  refine v_load rfl rfl ⟨rfl, Nat.le_of_ble_eq_true rfl⟩ ?_
  refine v_load rfl rfl ⟨rfl, Nat.le_of_ble_eq_true rfl⟩ ?_
  refine v_push rfl ?_
  refine v_push rfl ?_
  refine v_push rfl ?_
  refine v_callr rfl ⟨Nat.le_of_ble_eq_true rfl, Nat.le_of_ble_eq_true rfl, rfl, Nat.le_of_ble_eq_true rfl, rfl⟩ ?_
  refine R_goes (f := g) k1 hg (fun M2 k2 fr2 st2 b2 => ?_)
  refine v_goto rfl ?_
  refine v_ret rfl rfl ?_
  exact k M2 V1 I1 k2 o1 ⟨⟨fr2.1, fr2.2.1, fr2.2.2.2⟩, by rw [b2 93 g (by omega) (by omega), b1 93 g (by decide) (by omega) (by omega)]; exact h93, st2, by rw [b2 95 g (by omega) (by omega)]; exact x1⟩ (KF_tr (KF_bn b1 (Int.le_refl _)) (KF_go b2) (Int.le_refl _) (Int.le_refl _))
/-- EMPTY, ERROR -/
theorem R_biLeaf {so : Int} (hK : KS t h a (g + 1) ne rl V M) (hg : 0 ≤ g ∧ g < 99) (hal : a < ((toks t).length : Int)) (hn : 0 ≤ ne ∧ ne ≤ 10) (c1 : ¬ ((sgn (toks t) a = 1 ∨ sgn (toks t) a = 3) ∧ ne < 10)) (c2 : ¬ (sgn (toks t) a = 123 ∧ ne < 10)) (c3 : ¬ ((srt (toks t) a = 0 ∧ sgn (toks t) a = 0) ∧ sgn (toks t) (a + 1) = 61)) (c4 : ¬ ((srt (toks t) a = 0 ∧ sgn (toks t) a = 0) ∧ sgn (toks t) (a + 1) = 40)) (hso : so = if sgn (toks t) a = 59 then 8 else 9) (hh : h < 1216) (ha : a < 999) (k : ∀ M' V' I, KS t (h + 1) (a + 1) g ne rl V' M' → RES h V (h + 1) V' h (lfN so a 1 0) I → M' 77 31 = h → KF g rl M M' → Q none M') : v_call L (d + 6) 206 [(2, 77), (0, g)] M Q := by
  have p4 := hK.2.1.2.2.2.1
  have hT := tkOK_toks t a
  have k242 : ∀ w : zV, v_wp L (d + 6) 206 242 [(2, 77), (0, g), w] [] M Q := by
    intro w
    by_cases e : sgn (toks t) a = 59
    · rw [if_pos e] at hso
      subst hso
      refine v_load rfl rfl ⟨rfl, Nat.le_of_ble_eq_true rfl⟩ ?_
      refine v_load rfl rfl ⟨rfl, Nat.le_of_ble_eq_true rfl⟩ ?_
      refine v_load rfl rfl ⟨rfl, Nat.le_of_ble_eq_true rfl⟩ ?_
      refine v_push rfl ?_
      refine v_callr rfl ⟨Nat.le_of_ble_eq_true rfl, Nat.le_of_ble_eq_true rfl, rfl, Nat.le_of_ble_eq_true rfl, rfl⟩ ?_
      refine R_isNext hK (by decide) ?_
      refine v_ifeq rfl (fun h => absurd h (by omega)) (fun _ => ?_)
      refine v_push rfl ?_
      refine v_goto rfl ?_
      refine v_callr rfl ⟨Nat.le_of_ble_eq_true rfl, Nat.le_of_ble_eq_true rfl, rfl, Nat.le_of_ble_eq_true rfl, rfl⟩ ?_
      refine R_leaf 0 hK hh ha rfl (fun M1 V1 I k1 s1 b1 => ?_)
      refine v_callr rfl ⟨Nat.le_of_ble_eq_true rfl, Nat.le_of_ble_eq_true rfl, rfl, Nat.le_of_ble_eq_true rfl, rfl⟩ ?_
      refine R_ends k1 ⟨by omega, by omega⟩ (fun M2 k2 e2 b2 => ?_)
      refine v_ret rfl rfl ?_
      rw [show g + 1 - 1 = g by omega] at k2
      exact k M2 V1 I k2 s1 e2 (KF_tr (KF_KB b1) (KF_en b2) (Int.le_refl _) (Int.le_refl _))
    · rw [if_neg e] at hso
      subst hso
      refine v_load rfl rfl ⟨rfl, Nat.le_of_ble_eq_true rfl⟩ ?_
      refine v_load rfl rfl ⟨rfl, Nat.le_of_ble_eq_true rfl⟩ ?_
      refine v_load rfl rfl ⟨rfl, Nat.le_of_ble_eq_true rfl⟩ ?_
      refine v_push rfl ?_
      refine v_callr rfl ⟨Nat.le_of_ble_eq_true rfl, Nat.le_of_ble_eq_true rfl, rfl, Nat.le_of_ble_eq_true rfl, rfl⟩ ?_
      refine R_isNext hK (by decide) ?_
      refine v_ifeq rfl (fun _ => ?_) (fun h => absurd h (by omega))
      refine v_push rfl ?_
      refine v_callr rfl ⟨Nat.le_of_ble_eq_true rfl, Nat.le_of_ble_eq_true rfl, rfl, Nat.le_of_ble_eq_true rfl, rfl⟩ ?_
      refine R_leaf 0 hK hh ha rfl (fun M1 V1 I k1 s1 b1 => ?_)
      refine v_callr rfl ⟨Nat.le_of_ble_eq_true rfl, Nat.le_of_ble_eq_true rfl, rfl, Nat.le_of_ble_eq_true rfl, rfl⟩ ?_
      refine R_ends k1 ⟨by omega, by omega⟩ (fun M2 k2 e2 b2 => ?_)
      refine v_ret rfl rfl ?_
      rw [show g + 1 - 1 = g by omega] at k2
      exact k M2 V1 I k2 s1 e2 (KF_tr (KF_KB b1) (KF_en b2) (Int.le_refl _) (Int.le_refl _))
  have k24 : ∀ w : zV, (ne = 10 → sgn (toks t) a ≠ 59) → ne = 10 → v_wp L (d + 6) 206 24 [(2, 77), (0, g), w] [] M Q := by
    intro w e1 e2
    rw [if_neg (e1 e2)] at hso
    subst hso
    refine v_load rfl rfl ⟨rfl, Nat.le_of_ble_eq_true rfl⟩ ?_
    refine v_getx rfl rfl (p4) ?_
    refine v_push rfl ?_
    refine v_ine rfl (fun h => absurd h (by omega)) (fun _ => ?_)
    refine v_load rfl rfl ⟨rfl, Nat.le_of_ble_eq_true rfl⟩ ?_
    refine v_load rfl rfl ⟨rfl, Nat.le_of_ble_eq_true rfl⟩ ?_
    refine v_push rfl ?_
    refine v_callr rfl ⟨Nat.le_of_ble_eq_true rfl, Nat.le_of_ble_eq_true rfl, rfl, Nat.le_of_ble_eq_true rfl, rfl⟩ ?_
    refine R_leaf 0 hK hh ha rfl (fun M1 V1 I k1 s1 b1 => ?_)
    refine v_callr rfl ⟨Nat.le_of_ble_eq_true rfl, Nat.le_of_ble_eq_true rfl, rfl, Nat.le_of_ble_eq_true rfl, rfl⟩ ?_
    refine R_ends k1 ⟨by omega, by omega⟩ (fun M2 k2 e2 b2 => ?_)
    refine v_ret rfl rfl ?_
    rw [show g + 1 - 1 = g by omega] at k2
    exact k M2 V1 I k2 s1 e2 (KF_tr (KF_KB b1) (KF_en b2) (Int.le_refl _) (Int.le_refl _))
  refine v_in ?_
  refine v_load rfl rfl ⟨rfl, Nat.le_of_ble_eq_true rfl⟩ ?_
  refine v_callr rfl ⟨Nat.le_of_ble_eq_true rfl, Nat.le_of_ble_eq_true rfl, rfl, Nat.le_of_ble_eq_true rfl, rfl⟩ ?_
  refine R_keyNext hK ?_
  refine v_store rfl ⟨rfl, Nat.le_of_ble_eq_true rfl, Nat.le_of_ble_eq_true rfl, rfl⟩ rfl ?_
  refine v_load rfl rfl ⟨rfl, Nat.le_of_ble_eq_true rfl⟩ ?_
  refine v_push rfl ?_
  refine v_ieq rfl (fun c1 => ?_) (fun c1 => ?_)
  · first | exact k242 _ | exact k24 _ (fun _ => by omega) (by omega) | (exfalso; omega)
  · refine v_load rfl rfl ⟨rfl, Nat.le_of_ble_eq_true rfl⟩ ?_
    refine v_push rfl ?_
    refine v_ieq rfl (fun c2 => ?_) (fun c2 => ?_)
    · first | exact k242 _ | exact k24 _ (fun _ => by omega) (by omega) | (exfalso; omega)
    · refine v_load rfl rfl ⟨rfl, Nat.le_of_ble_eq_true rfl⟩ ?_
      refine v_push rfl ?_
      refine v_callr rfl ⟨Nat.le_of_ble_eq_true rfl, Nat.le_of_ble_eq_true rfl, rfl, Nat.le_of_ble_eq_true rfl, rfl⟩ ?_
      refine R_isNext hK (by decide) ?_
      refine v_ifeq rfl (fun c3 => ?_) (fun c3 => ?_)
      · refine v_load rfl rfl ⟨rfl, Nat.le_of_ble_eq_true rfl⟩ ?_
        refine v_callr rfl ⟨Nat.le_of_ble_eq_true rfl, Nat.le_of_ble_eq_true rfl, rfl, Nat.le_of_ble_eq_true rfl, rfl⟩ ?_
        refine R_isWord hK ?_
        refine v_ifeq rfl (fun c4 => ?_) (fun c4 => ?_)
        · refine v_load rfl rfl ⟨rfl, Nat.le_of_ble_eq_true rfl⟩ ?_
          refine v_callr rfl ⟨Nat.le_of_ble_eq_true rfl, Nat.le_of_ble_eq_true rfl, rfl, Nat.le_of_ble_eq_true rfl, rfl⟩ ?_
          refine R_isWord hK ?_
          refine v_ifeq rfl (fun c5 => ?_) (fun c5 => ?_)
          · first | exact k242 _ | exact k24 _ (fun _ => by omega) (by omega) | (exfalso; omega)
          · refine v_load rfl rfl ⟨rfl, Nat.le_of_ble_eq_true rfl⟩ ?_
            refine v_ifne rfl (fun c6 => ?_) (fun c6 => ?_)
            · first | exact k242 _ | exact k24 _ (fun _ => by omega) (by omega) | (exfalso; omega)
            · refine v_load rfl rfl ⟨rfl, Nat.le_of_ble_eq_true rfl⟩ ?_
              refine v_push rfl ?_
              refine v_callr rfl ⟨Nat.le_of_ble_eq_true rfl, Nat.le_of_ble_eq_true rfl, rfl, Nat.le_of_ble_eq_true rfl, rfl⟩ ?_
              refine R_isBehind hK (by decide) ?_
              refine v_ifeq rfl (fun c7 => ?_) (fun c7 => ?_)
              · first | exact k242 _ | exact k24 _ (fun _ => by omega) (by omega) | (exfalso; omega)
              · first | exact k242 _ | exact k24 _ (fun _ => by omega) (by omega) | (exfalso; omega)
        · refine v_load rfl rfl ⟨rfl, Nat.le_of_ble_eq_true rfl⟩ ?_
          refine v_ifne rfl (fun c8 => ?_) (fun c8 => ?_)
          · refine v_load rfl rfl ⟨rfl, Nat.le_of_ble_eq_true rfl⟩ ?_
            refine v_callr rfl ⟨Nat.le_of_ble_eq_true rfl, Nat.le_of_ble_eq_true rfl, rfl, Nat.le_of_ble_eq_true rfl, rfl⟩ ?_
            refine R_isWord hK ?_
            refine v_ifeq rfl (fun c9 => ?_) (fun c9 => ?_)
            · first | exact k242 _ | exact k24 _ (fun _ => by omega) (by omega) | (exfalso; omega)
            · refine v_load rfl rfl ⟨rfl, Nat.le_of_ble_eq_true rfl⟩ ?_
              refine v_ifne rfl (fun c10 => ?_) (fun c10 => ?_)
              · first | exact k242 _ | exact k24 _ (fun _ => by omega) (by omega) | (exfalso; omega)
              · refine v_load rfl rfl ⟨rfl, Nat.le_of_ble_eq_true rfl⟩ ?_
                refine v_push rfl ?_
                refine v_callr rfl ⟨Nat.le_of_ble_eq_true rfl, Nat.le_of_ble_eq_true rfl, rfl, Nat.le_of_ble_eq_true rfl, rfl⟩ ?_
                refine R_isBehind hK (by decide) ?_
                refine v_ifeq rfl (fun c11 => ?_) (fun c11 => ?_)
                · first | exact k242 _ | exact k24 _ (fun _ => by omega) (by omega) | (exfalso; omega)
                · first | exact k242 _ | exact k24 _ (fun _ => by omega) (by omega) | (exfalso; omega)
          · refine v_load rfl rfl ⟨rfl, Nat.le_of_ble_eq_true rfl⟩ ?_
            refine v_push rfl ?_
            refine v_callr rfl ⟨Nat.le_of_ble_eq_true rfl, Nat.le_of_ble_eq_true rfl, rfl, Nat.le_of_ble_eq_true rfl, rfl⟩ ?_
            refine R_isBehind hK (by decide) ?_
            refine v_ifeq rfl (fun c12 => ?_) (fun c12 => ?_)
            · refine v_load rfl rfl ⟨rfl, Nat.le_of_ble_eq_true rfl⟩ ?_
              refine v_callr rfl ⟨Nat.le_of_ble_eq_true rfl, Nat.le_of_ble_eq_true rfl, rfl, Nat.le_of_ble_eq_true rfl, rfl⟩ ?_
              refine R_isWord hK ?_
              refine v_ifeq rfl (fun c13 => ?_) (fun c13 => ?_)
              · first | exact k242 _ | exact k24 _ (fun _ => by omega) (by omega) | (exfalso; omega)
              · refine v_load rfl rfl ⟨rfl, Nat.le_of_ble_eq_true rfl⟩ ?_
                refine v_ifne rfl (fun c14 => ?_) (fun c14 => ?_)
                · first | exact k242 _ | exact k24 _ (fun _ => by omega) (by omega) | (exfalso; omega)
                · refine v_load rfl rfl ⟨rfl, Nat.le_of_ble_eq_true rfl⟩ ?_
                  refine v_push rfl ?_
                  refine v_callr rfl ⟨Nat.le_of_ble_eq_true rfl, Nat.le_of_ble_eq_true rfl, rfl, Nat.le_of_ble_eq_true rfl, rfl⟩ ?_
                  refine R_isBehind hK (by decide) ?_
                  refine v_ifeq rfl (fun c15 => ?_) (fun c15 => ?_)
                  · first | exact k242 _ | exact k24 _ (fun _ => by omega) (by omega) | (exfalso; omega)
                  · first | exact k242 _ | exact k24 _ (fun _ => by omega) (by omega) | (exfalso; omega)
            · first | exact k242 _ | exact k24 _ (fun _ => by omega) (by omega) | (exfalso; omega)
      · first | exact k242 _ | exact k24 _ (fun _ => by omega) (by omega) | (exfalso; omega)
theorem R_biSet (hK : KS t h a (g + 1) ne rl V M) (hg : 0 ≤ g ∧ g < 99) (h93 : M 93 g = 1) (hs : srt (toks t) a = 0 ∧ sgn (toks t) a = 0) (h61 : sgn (toks t) (a + 1) = 61) (hh : h + 2 < 1216) (ha : a < 990) (k : ∀ M' V' I I', KS t (h + 3) (a + 2) (g + 1 + 1) ne rl V' M' → OPN h V V' h 2 a 0 ([] ++ [(h + 1, lfN 12 a 1 0, I)] ++ [(h + 2, lfN 16 (a + 1) 1 0, I')]) (h + 3) → FRM M' g 4 h 3 0 → KF g rl M M' → Q none M') : v_call L (d + 6) 206 [(2, 77), (0, g)] M Q := by
  refine v_in ?_
  refine v_load rfl rfl ⟨rfl, Nat.le_of_ble_eq_true rfl⟩ ?_
  refine v_callr rfl ⟨Nat.le_of_ble_eq_true rfl, Nat.le_of_ble_eq_true rfl, rfl, Nat.le_of_ble_eq_true rfl, rfl⟩ ?_
  refine R_keyNext hK ?_
  rw [if_pos hs.1, hs.2]
  refine v_store rfl ⟨rfl, Nat.le_of_ble_eq_true rfl, Nat.le_of_ble_eq_true rfl, rfl⟩ rfl ?_
  refine v_load rfl rfl ⟨rfl, Nat.le_of_ble_eq_true rfl⟩ ?_
  refine v_push rfl ?_
  refine v_ieq rfl (fun h => absurd h (by decide)) (fun _ => ?_)
  refine v_load rfl rfl ⟨rfl, Nat.le_of_ble_eq_true rfl⟩ ?_
  refine v_push rfl ?_
  refine v_ieq rfl (fun h => absurd h (by decide)) (fun _ => ?_)
  refine v_load rfl rfl ⟨rfl, Nat.le_of_ble_eq_true rfl⟩ ?_
  refine v_push rfl ?_
  refine v_callr rfl ⟨Nat.le_of_ble_eq_true rfl, Nat.le_of_ble_eq_true rfl, rfl, Nat.le_of_ble_eq_true rfl, rfl⟩ ?_
  refine R_isNext hK (by decide) ?_
  refine v_ifeq rfl (fun _ => ?_) (fun h => absurd h (by omega))
  refine v_load rfl rfl ⟨rfl, Nat.le_of_ble_eq_true rfl⟩ ?_
  refine v_callr rfl ⟨Nat.le_of_ble_eq_true rfl, Nat.le_of_ble_eq_true rfl, rfl, Nat.le_of_ble_eq_true rfl, rfl⟩ ?_
  refine R_isWord hK ?_
  refine v_ifeq rfl (fun h => absurd h (by omega)) (fun _ => ?_)
  refine v_load rfl rfl ⟨rfl, Nat.le_of_ble_eq_true rfl⟩ ?_
  refine v_ifne rfl (fun h => absurd h (by decide)) (fun _ => ?_)
  refine v_load rfl rfl ⟨rfl, Nat.le_of_ble_eq_true rfl⟩ ?_
  refine v_push rfl ?_
  refine v_callr rfl ⟨Nat.le_of_ble_eq_true rfl, Nat.le_of_ble_eq_true rfl, rfl, Nat.le_of_ble_eq_true rfl, rfl⟩ ?_
  refine R_isBehind hK (by decide) ?_
  refine v_ifeq rfl (fun h => absurd h (by omega)) (fun _ => ?_)
  refine v_load rfl rfl ⟨rfl, Nat.le_of_ble_eq_true rfl⟩ ?_
  refine v_getp rfl rfl rfl ?_
  refine v_load rfl rfl ⟨rfl, Nat.le_of_ble_eq_true rfl⟩ ?_
  refine v_load rfl rfl ⟨rfl, Nat.le_of_ble_eq_true rfl⟩ ?_
  refine v_push rfl ?_
  refine v_callr rfl ⟨Nat.le_of_ble_eq_true rfl, Nat.le_of_ble_eq_true rfl, rfl, Nat.le_of_ble_eq_true rfl, rfl⟩ ?_
  refine R_open a hK (by omega) ⟨rfl, by decide⟩ (fun _ => rfl) (fun M1 V1 k1 o1 b1 => ?_)
  obtain ⟨-, ⟨-, -, p27, p29, p30⟩, -, -⟩ := id k1
  have k2 : KS t (h + 1) a (g + 1) ne rl V1 (z_upd M1 95 g h) := KS_ch k1 (fun b j h1 _ => u_n1 (by omega)) (by rw [u_n1 (by decide)]; exact p27) (by rw [u_n1 (by decide)]; exact p29) (by rw [u_n1 (by decide)]; exact p30)
  refine v_ast9 rfl rfl (by decide) ⟨by omega, by show _ < (100 : Int); omega⟩ ?_
  refine v_load rfl rfl ⟨rfl, Nat.le_of_ble_eq_true rfl⟩ ?_
  refine v_load rfl rfl ⟨rfl, Nat.le_of_ble_eq_true rfl⟩ ?_
  refine v_getp rfl rfl rfl ?_
  refine v_load rfl rfl ⟨rfl, Nat.le_of_ble_eq_true rfl⟩ ?_
  refine v_ald9 rfl rfl ⟨by omega, by show _ < (100 : Int); omega⟩ ?_
  rw [u_eq]
  refine v_load rfl rfl ⟨rfl, Nat.le_of_ble_eq_true rfl⟩ ?_
  refine v_push rfl ?_
  refine v_callr rfl ⟨Nat.le_of_ble_eq_true rfl, Nat.le_of_ble_eq_true rfl, rfl, Nat.le_of_ble_eq_true rfl, rfl⟩ ?_
  refine R_leaf 0 k2 (by omega) (by omega) rfl (fun M3 V3 I3 k3 r3 b3 => ?_)
  refine v_callr rfl ⟨Nat.le_of_ble_eq_true rfl, Nat.le_of_ble_eq_true rfl, rfl, Nat.le_of_ble_eq_true rfl, rfl⟩ ?_
  refine R_adds o1 k3 (by omega) r3 (fun M4 V4 k4 o4 b4 => ?_)
  have x95 : M4 95 g = h := by rw [KB_tr b3 b4 95 g (by decide) (by omega), u_eq]
  refine v_load rfl rfl ⟨rfl, Nat.le_of_ble_eq_true rfl⟩ ?_
  refine v_load rfl rfl ⟨rfl, Nat.le_of_ble_eq_true rfl⟩ ?_
  refine v_getp rfl rfl rfl ?_
  refine v_load rfl rfl ⟨rfl, Nat.le_of_ble_eq_true rfl⟩ ?_
  refine v_ald9 rfl rfl ⟨by omega, by show _ < (100 : Int); omega⟩ ?_
  rw [x95]
  refine v_load rfl rfl ⟨rfl, Nat.le_of_ble_eq_true rfl⟩ ?_
  refine v_push rfl ?_
  refine v_callr rfl ⟨Nat.le_of_ble_eq_true rfl, Nat.le_of_ble_eq_true rfl, rfl, Nat.le_of_ble_eq_true rfl, rfl⟩ ?_
  refine R_leaf 0 k4 (by omega) (by omega) rfl (fun M5 V5 I5 k5 r5 b5 => ?_)
  refine v_callr rfl ⟨Nat.le_of_ble_eq_true rfl, Nat.le_of_ble_eq_true rfl, rfl, Nat.le_of_ble_eq_true rfl, rfl⟩ ?_
  refine R_adds o4 k5 (by omega) r5 (fun M6 V6 k6 o6 b6 => ?_)
  refine v_load rfl rfl ⟨rfl, Nat.le_of_ble_eq_true rfl⟩ ?_
  refine v_load rfl rfl ⟨rfl, Nat.le_of_ble_eq_true rfl⟩ ?_
  refine v_push rfl ?_
  refine v_push rfl ?_
  refine v_push rfl ?_
  refine v_callr rfl ⟨Nat.le_of_ble_eq_true rfl, Nat.le_of_ble_eq_true rfl, rfl, Nat.le_of_ble_eq_true rfl, rfl⟩ ?_
  refine R_goes (f := g) k6 hg (fun M7 k7 fr7 st7 b7 => ?_)
  refine v_goto rfl ?_
  refine v_ret rfl rfl ?_
  have b36 := KB_tr b3 (KB_tr b4 (KB_tr b5 b6))
  rw [show h + 1 + 1 = h + 2 by omega] at o6
  refine k M7 V6 I3 I5 ?_ ?_ ⟨⟨fr7.1, fr7.2.1, fr7.2.2.2⟩, ?_, st7, ?_⟩ (KF_tr (KF_KB b1) (KF_tr (KF_u (by decide) (Int.le_refl _)) (KF_tr (KF_KB b36) (KF_go b7) (Int.le_refl _) (Int.le_refl _)) (Int.le_refl _) (Int.le_refl _)) (Int.le_refl _) (Int.le_refl _))
  · rw [show h + 3 = h + 1 + 1 + 1 by omega, show a + 2 = a + 1 + 1 by omega]; exact k7
  · rw [show h + 3 = h + 2 + 1 by omega]; exact o6
  · rw [b7 93 g (by omega) (by omega), b36 93 g (by decide) (by omega), u_n1 (by decide), b1 93 g (by decide) (by omega)]; exact h93
  · rw [b7 95 g (by omega) (by omega), b36 95 g (by decide) (by omega), u_eq]
/-- the name and the bracket of a call -/
theorem R_biCall (hK : KS t h a (g + 1) ne rl V M) (hg : 0 ≤ g ∧ g < 99) (h93 : M 93 g = 1) (hs : srt (toks t) a = 0 ∧ sgn (toks t) a = 0) (h40 : sgn (toks t) (a + 1) = 40) (hh : h + 2 < 1216) (ha : a < 990) (k : ∀ M' V' I I', KS t (h + 3) (a + 2) (g + 1) ne rl V' M' → OPN h V V' h 3 a 0 ([] ++ [(h + 1, lfN 12 a 1 0, I)] ++ [(h + 2, lfN 16 (a + 1) 1 40, I')]) (h + 3) → M' 93 g = 1 → M' 95 g = h → KF g rl M M' → v_call L (d + 5) 207 [(2, 77), (0, g)] M' (fun rv M2 => rv = none ∧ Q none M2)) : v_call L (d + 6) 206 [(2, 77), (0, g)] M Q := by
  refine v_in ?_
  refine v_load rfl rfl ⟨rfl, Nat.le_of_ble_eq_true rfl⟩ ?_
  refine v_callr rfl ⟨Nat.le_of_ble_eq_true rfl, Nat.le_of_ble_eq_true rfl, rfl, Nat.le_of_ble_eq_true rfl, rfl⟩ ?_
  refine R_keyNext hK ?_
  rw [if_pos hs.1, hs.2]
  refine v_store rfl ⟨rfl, Nat.le_of_ble_eq_true rfl, Nat.le_of_ble_eq_true rfl, rfl⟩ rfl ?_
  refine v_load rfl rfl ⟨rfl, Nat.le_of_ble_eq_true rfl⟩ ?_
  refine v_push rfl ?_
  refine v_ieq rfl (fun h => absurd h (by decide)) (fun _ => ?_)
  refine v_load rfl rfl ⟨rfl, Nat.le_of_ble_eq_true rfl⟩ ?_
  refine v_push rfl ?_
  refine v_ieq rfl (fun h => absurd h (by decide)) (fun _ => ?_)
  refine v_load rfl rfl ⟨rfl, Nat.le_of_ble_eq_true rfl⟩ ?_
  refine v_push rfl ?_
  refine v_callr rfl ⟨Nat.le_of_ble_eq_true rfl, Nat.le_of_ble_eq_true rfl, rfl, Nat.le_of_ble_eq_true rfl, rfl⟩ ?_
  refine R_isNext hK (by decide) ?_
  refine v_ifeq rfl (fun _ => ?_) (fun h => absurd h (by omega))
  refine v_load rfl rfl ⟨rfl, Nat.le_of_ble_eq_true rfl⟩ ?_
  refine v_callr rfl ⟨Nat.le_of_ble_eq_true rfl, Nat.le_of_ble_eq_true rfl, rfl, Nat.le_of_ble_eq_true rfl, rfl⟩ ?_
  refine R_isWord hK ?_
  refine v_ifeq rfl (fun h => absurd h (by omega)) (fun _ => ?_)
  refine v_load rfl rfl ⟨rfl, Nat.le_of_ble_eq_true rfl⟩ ?_
  refine v_ifne rfl (fun h => absurd h (by decide)) (fun _ => ?_)
  refine v_load rfl rfl ⟨rfl, Nat.le_of_ble_eq_true rfl⟩ ?_
  refine v_push rfl ?_
  refine v_callr rfl ⟨Nat.le_of_ble_eq_true rfl, Nat.le_of_ble_eq_true rfl, rfl, Nat.le_of_ble_eq_true rfl, rfl⟩ ?_
  refine R_isBehind hK (by decide) ?_
  refine v_ifeq rfl (fun _ => ?_) (fun h => absurd h (by omega))
  refine v_load rfl rfl ⟨rfl, Nat.le_of_ble_eq_true rfl⟩ ?_
  refine v_callr rfl ⟨Nat.le_of_ble_eq_true rfl, Nat.le_of_ble_eq_true rfl, rfl, Nat.le_of_ble_eq_true rfl, rfl⟩ ?_
  refine R_isWord hK ?_
  refine v_ifeq rfl (fun h => absurd h (by omega)) (fun _ => ?_)
  refine v_load rfl rfl ⟨rfl, Nat.le_of_ble_eq_true rfl⟩ ?_
  refine v_ifne rfl (fun h => absurd h (by decide)) (fun _ => ?_)
  refine v_load rfl rfl ⟨rfl, Nat.le_of_ble_eq_true rfl⟩ ?_
  refine v_push rfl ?_
  refine v_callr rfl ⟨Nat.le_of_ble_eq_true rfl, Nat.le_of_ble_eq_true rfl, rfl, Nat.le_of_ble_eq_true rfl, rfl⟩ ?_
  refine R_isBehind hK (by decide) ?_
  refine v_ifeq rfl (fun h => absurd h (by omega)) (fun _ => ?_)
  refine v_load rfl rfl ⟨rfl, Nat.le_of_ble_eq_true rfl⟩ ?_
  refine v_getp rfl rfl rfl ?_
  refine v_load rfl rfl ⟨rfl, Nat.le_of_ble_eq_true rfl⟩ ?_
  refine v_load rfl rfl ⟨rfl, Nat.le_of_ble_eq_true rfl⟩ ?_
  refine v_push rfl ?_
  refine v_callr rfl ⟨Nat.le_of_ble_eq_true rfl, Nat.le_of_ble_eq_true rfl, rfl, Nat.le_of_ble_eq_true rfl, rfl⟩ ?_
  refine R_open a hK (by omega) ⟨rfl, by decide⟩ (fun _ => rfl) (fun M1 V1 k1 o1 b1 => ?_)
  obtain ⟨-, ⟨-, -, p27, p29, p30⟩, -, -⟩ := id k1
  have k2 : KS t (h + 1) a (g + 1) ne rl V1 (z_upd M1 95 g h) := KS_ch k1 (fun b j h1 _ => u_n1 (by omega)) (by rw [u_n1 (by decide)]; exact p27) (by rw [u_n1 (by decide)]; exact p29) (by rw [u_n1 (by decide)]; exact p30)
  refine v_ast9 rfl rfl (by decide) ⟨by omega, by show _ < (100 : Int); omega⟩ ?_
  refine v_load rfl rfl ⟨rfl, Nat.le_of_ble_eq_true rfl⟩ ?_
  refine v_load rfl rfl ⟨rfl, Nat.le_of_ble_eq_true rfl⟩ ?_
  refine v_getp rfl rfl rfl ?_
  refine v_load rfl rfl ⟨rfl, Nat.le_of_ble_eq_true rfl⟩ ?_
  refine v_ald9 rfl rfl ⟨by omega, by show _ < (100 : Int); omega⟩ ?_
  rw [u_eq]
  refine v_load rfl rfl ⟨rfl, Nat.le_of_ble_eq_true rfl⟩ ?_
  refine v_push rfl ?_
  refine v_callr rfl ⟨Nat.le_of_ble_eq_true rfl, Nat.le_of_ble_eq_true rfl, rfl, Nat.le_of_ble_eq_true rfl, rfl⟩ ?_
  refine R_leaf 0 k2 (by omega) (by omega) rfl (fun M3 V3 I3 k3 r3 b3 => ?_)
  refine v_callr rfl ⟨Nat.le_of_ble_eq_true rfl, Nat.le_of_ble_eq_true rfl, rfl, Nat.le_of_ble_eq_true rfl, rfl⟩ ?_
  refine R_adds o1 k3 (by omega) r3 (fun M4 V4 k4 o4 b4 => ?_)
  have x95 : M4 95 g = h := by rw [KB_tr b3 b4 95 g (by decide) (by omega), u_eq]
  refine v_load rfl rfl ⟨rfl, Nat.le_of_ble_eq_true rfl⟩ ?_
  refine v_load rfl rfl ⟨rfl, Nat.le_of_ble_eq_true rfl⟩ ?_
  refine v_getp rfl rfl rfl ?_
  refine v_load rfl rfl ⟨rfl, Nat.le_of_ble_eq_true rfl⟩ ?_
  refine v_ald9 rfl rfl ⟨by omega, by show _ < (100 : Int); omega⟩ ?_
  rw [x95]
  refine v_load rfl rfl ⟨rfl, Nat.le_of_ble_eq_true rfl⟩ ?_
  refine v_push rfl ?_
  refine v_callr rfl ⟨Nat.le_of_ble_eq_true rfl, Nat.le_of_ble_eq_true rfl, rfl, Nat.le_of_ble_eq_true rfl, rfl⟩ ?_
  refine R_leaf 40 k4 (by omega) (by omega) rfl (fun M5 V5 I5 k5 r5 b5 => ?_)
  refine v_callr rfl ⟨Nat.le_of_ble_eq_true rfl, Nat.le_of_ble_eq_true rfl, rfl, Nat.le_of_ble_eq_true rfl, rfl⟩ ?_
  refine R_adds o4 k5 (by omega) r5 (fun M6 V6 k6 o6 b6 => ?_)
  refine v_load rfl rfl ⟨rfl, Nat.le_of_ble_eq_true rfl⟩ ?_
  refine v_load rfl rfl ⟨rfl, Nat.le_of_ble_eq_true rfl⟩ ?_
  have b36 := KB_tr b3 (KB_tr b4 (KB_tr b5 b6))
  rw [show h + 1 + 1 = h + 2 by omega] at o6
  have f6 : KF g rl M M6 := KF_tr (KF_KB b1) (KF_tr (KF_u (by decide) (Int.le_refl _)) (KF_KB b36) (Int.le_refl _) (Int.le_refl _)) (Int.le_refl _) (Int.le_refl _)
  refine v_callr rfl ⟨Nat.le_of_ble_eq_true rfl, Nat.le_of_ble_eq_true rfl, rfl, Nat.le_of_ble_eq_true rfl, rfl⟩ ?_
  refine vc_mono (k M6 V6 I3 I5 ?_ ?_ ?_ ?_ f6) (fun rv M7 _ hc => ?_)
  · rw [show h + 3 = h + 1 + 1 + 1 by omega, show a + 2 = a + 1 + 1 by omega]; exact k6
  · rw [show h + 3 = h + 2 + 1 by omega]; exact o6
  · rw [b36 93 g (by decide) (by omega), u_n1 (by decide), b1 93 g (by decide) (by omega)]; exact h93
  · rw [b36 95 g (by decide) (by omega), u_eq]
  · obtain ⟨rfl, hc⟩ := hc
    refine v_goto rfl ?_
    refine v_ret rfl rfl ?_
    exact hc
/-- a call ends -/
theorem R_endsCall {x so fr sg : Int} {ks : List zK} (hO : OPN lo V0 V x so fr sg ks h) (hK : KS t h a (g + 1) ne rl V M) (hg : 0 ≤ g ∧ g < 99) (h95 : M 95 g = x) (hh : h + 1 < 1216) (ha : a < 990) (k : ∀ M' V' I I', KS t (h + 2) (clos (toks t) 59 (clos (toks t) 41 a).2).2 g ne rl V' M' → OPN lo V0 V' x so fr sg (ks ++ [(h, (clos (toks t) 41 a).1, I)] ++ [(h + 1, (clos (toks t) 59 (clos (toks t) 41 a).2).1, I')]) (h + 2) → M' 77 31 = x → KF g rl M M' → Q none M') : v_call L (d + 3) 208 [(2, 77), (0, g)] M Q := by
  have ha2 : (clos (toks t) 41 a).2 ≤ a + 1 := by unfold clos; split <;> (first | exact Int.le_refl _ | (show a ≤ a + 1; omega))
  refine v_in ?_
  refine v_load rfl rfl ⟨rfl, Nat.le_of_ble_eq_true rfl⟩ ?_
  refine v_load rfl rfl ⟨rfl, Nat.le_of_ble_eq_true rfl⟩ ?_
  refine v_getp rfl rfl rfl ?_
  refine v_load rfl rfl ⟨rfl, Nat.le_of_ble_eq_true rfl⟩ ?_
  refine v_ald9 rfl rfl ⟨by omega, by show _ < (100 : Int); omega⟩ ?_
  rw [h95]
  refine v_push rfl ?_
  refine v_callr rfl ⟨Nat.le_of_ble_eq_true rfl, Nat.le_of_ble_eq_true rfl, rfl, Nat.le_of_ble_eq_true rfl, rfl⟩ ?_
  refine R_signs hO hK (by decide) (by omega) (by omega) (fun M1 V1 I1 k1 o1 b1 => ?_)
  refine v_load rfl rfl ⟨rfl, Nat.le_of_ble_eq_true rfl⟩ ?_
  refine v_load rfl rfl ⟨rfl, Nat.le_of_ble_eq_true rfl⟩ ?_
  refine v_getp rfl rfl rfl ?_
  refine v_load rfl rfl ⟨rfl, Nat.le_of_ble_eq_true rfl⟩ ?_
  refine v_ald9 rfl rfl ⟨by omega, by show _ < (100 : Int); omega⟩ ?_
  rw [b1 95 g (by decide) (by omega), h95]
  refine v_push rfl ?_
  refine v_callr rfl ⟨Nat.le_of_ble_eq_true rfl, Nat.le_of_ble_eq_true rfl, rfl, Nat.le_of_ble_eq_true rfl, rfl⟩ ?_
  refine R_signs o1 k1 (by decide) (by omega) (by omega) (fun M2 V2 I2 k2 o2 b2 => ?_)
  refine v_load rfl rfl ⟨rfl, Nat.le_of_ble_eq_true rfl⟩ ?_
  refine v_load rfl rfl ⟨rfl, Nat.le_of_ble_eq_true rfl⟩ ?_
  refine v_getp rfl rfl rfl ?_
  refine v_load rfl rfl ⟨rfl, Nat.le_of_ble_eq_true rfl⟩ ?_
  refine v_ald9 rfl rfl ⟨by omega, by show _ < (100 : Int); omega⟩ ?_
  rw [b2 95 g (by decide) (by omega), b1 95 g (by decide) (by omega), h95]
  refine v_callr rfl ⟨Nat.le_of_ble_eq_true rfl, Nat.le_of_ble_eq_true rfl, rfl, Nat.le_of_ble_eq_true rfl, rfl⟩ ?_
  refine R_ends k2 ⟨by omega, by omega⟩ (fun M3 k3 e3 b3 => ?_)
  refine v_ret rfl rfl ?_
  rw [show g + 1 - 1 = g by omega] at k3
  rw [show h + 1 + 1 = h + 2 by omega] at k3 o2
  exact k M3 V2 I1 I2 k3 o2 e3 (KF_tr (KF_KB (KB_tr b1 b2)) (KF_en b3) (Int.le_refl _) (Int.le_refl _))
end RT2
