/-! WHAT IS KEPT: tokens -/
def tmt (T0 T1 : List zT) (o i : Nat) : Prop := (T0.getD o t0).1 = (T1.getD i t0).1 ∧ (T0.getD o t0).2.2.1 - (T0.getD o t0).2.1 = (T1.getD i t0).2.2.1 - (T1.getD i t0).2.1
/-- the old token at a place -/
def olT (T0 : List zT) (p : Int) : Int := if 0 ≤ p ∧ p < 300 then lastI (fstT T0 p) T0.length else -1
/-- the old token that a token is, or -1 -/
def og (T0 T1 : List zT) (a b more : Int) (i : Nat) : Int :=
  if (T1.getD i t0).2.1 < a then
    (if 0 ≤ olT T0 (T1.getD i t0).2.1 ∧ (T0.getD (olT T0 (T1.getD i t0).2.1).toNat t0).1 = (T1.getD i t0).1 ∧ (T0.getD (olT T0 (T1.getD i t0).2.1).toNat t0).2.2.1 - (T0.getD (olT T0 (T1.getD i t0).2.1).toNat t0).2.1 = (T1.getD i t0).2.2.1 - (T1.getD i t0).2.1 ∧ (T0.getD (olT T0 (T1.getD i t0).2.1).toNat t0).2.2.2.1 < a then olT T0 (T1.getD i t0).2.1 else -1)
  else if (T1.getD i t0).2.1 - more < b then -1
  else (if 0 ≤ olT T0 ((T1.getD i t0).2.1 - more) ∧ (T0.getD (olT T0 ((T1.getD i t0).2.1 - more)).toNat t0).1 = (T1.getD i t0).1 ∧ (T0.getD (olT T0 ((T1.getD i t0).2.1 - more)).toNat t0).2.2.1 - (T0.getD (olT T0 ((T1.getD i t0).2.1 - more)).toNat t0).2.1 = (T1.getD i t0).2.2.1 - (T1.getD i t0).2.1 then olT T0 ((T1.getD i t0).2.1 - more) else -1)
theorem olT_rng (T0 : List zT) (p : Int) : olT T0 p = -1 ∨ (0 ≤ olT T0 p ∧ olT T0 p < (T0.length : Int) ∧ (T0.getD (olT T0 p).toNat t0).2.1 = p) := by
  unfold olT
  split
  · rcases lastI_ok (fstT T0 p) T0.length with ⟨e, -⟩ | ⟨i, hi, e, h1, -⟩
    · exact Or.inl e
    · rw [e]
      refine Or.inr ⟨by omega, by omega, ?_⟩
      rw [Int.toNat_natCast]
      unfold fstT at h1
      simpa using h1
  · exact Or.inl rfl
section KP2
variable {L d : Nat} {M : zM} {Q : Option zV → zM → Prop} {T0 T1 : List zT} {N0 : List zQ} {a b more : Int}
theorem S_originBy {i : Nat} (hO : OC T0 N0 M) (hl0 : T0.length ≤ 300) (hR : RT T1 M) (hi : i < T1.length) (hf : 0 ≤ (T1.getD i t0).2.1 ∧ (T1.getD i t0).2.1 < 300 ∧ 0 ≤ (T1.getD i t0).2.2.1 ∧ (T1.getD i t0).2.2.1 ≤ 300) (hm : -1000 ≤ more ∧ more ≤ 1000) (k : Q (some (0, og T0 T1 a b more i)) M) : v_call L (d + 2) 30 [(2, 62), (0, (i : Int)), (0, a), (0, b), (0, more)] M Q := by
  obtain ⟨h6, ⟨o1, o2⟩, -, -⟩ := hO
  have hl1 := hR.2.1
  have etk : tk T1 (i : Int) = T1.getD i t0 := tk_in ⟨by omega, by omega⟩
  -- from the old token's place on
  have tail : ∀ (ah pl : Int) (w : zV), (ah = 0 ∨ ah = 1) → (0 ≤ olT T0 pl) → (og T0 T1 a b more i = if (T0.getD (olT T0 pl).toNat t0).1 = (T1.getD i t0).1 ∧ (T0.getD (olT T0 pl).toNat t0).2.2.1 - (T0.getD (olT T0 pl).toNat t0).2.1 = (T1.getD i t0).2.2.1 - (T1.getD i t0).2.1 ∧ (ah = 0 ∨ (T0.getD (olT T0 pl).toNat t0).2.2.2.1 < a) then olT T0 pl else -1) → v_wp L (d + 2) 30 81 [(2, 62), (0, (i : Int)), (0, a), (0, b), (0, more), (0, (T1.getD i t0).2.1), (0, ah), (0, pl), (0, olT T0 pl), w] [] M Q := by
    intro ah pl w hah h0 hog
    have hr := (olT_rng T0 pl).resolve_left (by omega)
    have g := o1 (olT T0 pl).toNat (by omega)
    rw [show (((olT T0 pl).toNat : Nat) : Int) = olT T0 pl by omega] at g
    generalize olT T0 pl = o at *
    refine v_load rfl rfl ⟨rfl, Nat.le_of_ble_eq_true rfl⟩ ?_
    refine v_iflt rfl (fun h => absurd h (by omega)) (fun _ => ?_)
    refine v_load rfl rfl ⟨rfl, Nat.le_of_ble_eq_true rfl⟩ ?_
    refine v_load rfl rfl ⟨rfl, Nat.le_of_ble_eq_true rfl⟩ ?_
    refine v_getx rfl rfl (h6) ?_
    refine v_ige rfl (fun h => absurd h (by omega)) (fun _ => ?_)
    refine v_load rfl rfl ⟨rfl, Nat.le_of_ble_eq_true rfl⟩ ?_
    refine v_push rfl ?_
    refine v_ilt rfl (fun _ => ?_) (fun h => absurd h (by omega))
    refine v_load rfl rfl ⟨rfl, Nat.le_of_ble_eq_true rfl⟩ ?_
    refine v_getp rfl rfl rfl ?_
    refine v_load rfl rfl ⟨rfl, Nat.le_of_ble_eq_true rfl⟩ ?_
    refine v_ald9 rfl rfl ⟨by omega, by show _ < (300 : Int); omega⟩ ?_
    refine v_load rfl rfl ⟨rfl, Nat.le_of_ble_eq_true rfl⟩ ?_
    refine v_getp rfl rfl rfl ?_
    refine v_load rfl rfl ⟨rfl, Nat.le_of_ble_eq_true rfl⟩ ?_
    refine v_callr rfl ⟨Nat.le_of_ble_eq_true rfl, Nat.le_of_ble_eq_true rfl, rfl, Nat.le_of_ble_eq_true rfl, rfl⟩ ?_
    refine S_tkSort hR ?_
    rw [etk]
    refine v_ine rfl (fun c1 => ?_) (fun c1 => ?_)
    · refine v_push rfl ?_
      refine v_store rfl ⟨rfl, Nat.le_of_ble_eq_true rfl, Nat.le_of_ble_eq_true rfl, rfl⟩ rfl ?_
      refine v_load rfl rfl ⟨rfl, Nat.le_of_ble_eq_true rfl⟩ ?_
      refine v_ifeq rfl (fun c2 => ?_) (fun c2 => ?_)
      · refine v_push rfl ?_
        refine v_ret rfl rfl ?_
        exact qeq k (by rw [hog]; split <;> omega)
      · refine v_load rfl rfl ⟨rfl, Nat.le_of_ble_eq_true rfl⟩ ?_
        refine v_ifeq rfl (fun c3 => ?_) (fun c3 => ?_)
        · refine v_load rfl rfl ⟨rfl, Nat.le_of_ble_eq_true rfl⟩ ?_
          refine v_goto rfl ?_
          refine v_ret rfl rfl ?_
          exact qeq k (by rw [hog]; split <;> omega)
        · refine v_load rfl rfl ⟨rfl, Nat.le_of_ble_eq_true rfl⟩ ?_
          refine v_getp rfl rfl rfl ?_
          refine v_load rfl rfl ⟨rfl, Nat.le_of_ble_eq_true rfl⟩ ?_
          refine v_ald9 rfl rfl ⟨by omega, by show _ < (300 : Int); omega⟩ ?_
          refine v_load rfl rfl ⟨rfl, Nat.le_of_ble_eq_true rfl⟩ ?_
          refine v_ige rfl (fun c4 => ?_) (fun c4 => ?_)
          · refine v_push rfl ?_
            refine v_ret rfl rfl ?_
            exact qeq k (by rw [hog]; split <;> omega)
          · refine v_load rfl rfl ⟨rfl, Nat.le_of_ble_eq_true rfl⟩ ?_
            refine v_goto rfl ?_
            refine v_ret rfl rfl ?_
            exact qeq k (by rw [hog]; split <;> omega)
    · refine v_load rfl rfl ⟨rfl, Nat.le_of_ble_eq_true rfl⟩ ?_
      refine v_getp rfl rfl rfl ?_
      refine v_load rfl rfl ⟨rfl, Nat.le_of_ble_eq_true rfl⟩ ?_
      refine v_ald9 rfl rfl ⟨by omega, by show _ < (300 : Int); omega⟩ ?_
      refine v_load rfl rfl ⟨rfl, Nat.le_of_ble_eq_true rfl⟩ ?_
      refine v_getp rfl rfl rfl ?_
      refine v_load rfl rfl ⟨rfl, Nat.le_of_ble_eq_true rfl⟩ ?_
      refine v_callr rfl ⟨Nat.le_of_ble_eq_true rfl, Nat.le_of_ble_eq_true rfl, rfl, Nat.le_of_ble_eq_true rfl, rfl⟩ ?_
      refine S_tkEnd hR ?_
      rw [etk]
      refine v_load rfl rfl ⟨rfl, Nat.le_of_ble_eq_true rfl⟩ ?_
      refine v_sub rfl (by omega) ?_
      refine v_ine rfl (fun c5 => ?_) (fun c5 => ?_)
      · refine v_push rfl ?_
        refine v_store rfl ⟨rfl, Nat.le_of_ble_eq_true rfl, Nat.le_of_ble_eq_true rfl, rfl⟩ rfl ?_
        refine v_load rfl rfl ⟨rfl, Nat.le_of_ble_eq_true rfl⟩ ?_
        refine v_ifeq rfl (fun c6 => ?_) (fun c6 => ?_)
        · refine v_push rfl ?_
          refine v_ret rfl rfl ?_
          exact qeq k (by rw [hog]; split <;> omega)
        · refine v_load rfl rfl ⟨rfl, Nat.le_of_ble_eq_true rfl⟩ ?_
          refine v_ifeq rfl (fun c7 => ?_) (fun c7 => ?_)
          · refine v_load rfl rfl ⟨rfl, Nat.le_of_ble_eq_true rfl⟩ ?_
            refine v_goto rfl ?_
            refine v_ret rfl rfl ?_
            exact qeq k (by rw [hog]; split <;> omega)
          · refine v_load rfl rfl ⟨rfl, Nat.le_of_ble_eq_true rfl⟩ ?_
            refine v_getp rfl rfl rfl ?_
            refine v_load rfl rfl ⟨rfl, Nat.le_of_ble_eq_true rfl⟩ ?_
            refine v_ald9 rfl rfl ⟨by omega, by show _ < (300 : Int); omega⟩ ?_
            refine v_load rfl rfl ⟨rfl, Nat.le_of_ble_eq_true rfl⟩ ?_
            refine v_ige rfl (fun c8 => ?_) (fun c8 => ?_)
            · refine v_push rfl ?_
              refine v_ret rfl rfl ?_
              exact qeq k (by rw [hog]; split <;> omega)
            · refine v_load rfl rfl ⟨rfl, Nat.le_of_ble_eq_true rfl⟩ ?_
              refine v_goto rfl ?_
              refine v_ret rfl rfl ?_
              exact qeq k (by rw [hog]; split <;> omega)
      · refine v_push rfl ?_
        refine v_goto rfl ?_
        refine v_store rfl ⟨rfl, Nat.le_of_ble_eq_true rfl, Nat.le_of_ble_eq_true rfl, rfl⟩ rfl ?_
        refine v_load rfl rfl ⟨rfl, Nat.le_of_ble_eq_true rfl⟩ ?_
        refine v_ifeq rfl (fun c9 => ?_) (fun c9 => ?_)
        · refine v_push rfl ?_
          refine v_ret rfl rfl ?_
          exact qeq k (by rw [hog]; split <;> omega)
        · refine v_load rfl rfl ⟨rfl, Nat.le_of_ble_eq_true rfl⟩ ?_
          refine v_ifeq rfl (fun c10 => ?_) (fun c10 => ?_)
          · refine v_load rfl rfl ⟨rfl, Nat.le_of_ble_eq_true rfl⟩ ?_
            refine v_goto rfl ?_
            refine v_ret rfl rfl ?_
            exact qeq k (by rw [hog]; split <;> omega)
          · refine v_load rfl rfl ⟨rfl, Nat.le_of_ble_eq_true rfl⟩ ?_
            refine v_getp rfl rfl rfl ?_
            refine v_load rfl rfl ⟨rfl, Nat.le_of_ble_eq_true rfl⟩ ?_
            refine v_ald9 rfl rfl ⟨by omega, by show _ < (300 : Int); omega⟩ ?_
            refine v_load rfl rfl ⟨rfl, Nat.le_of_ble_eq_true rfl⟩ ?_
            refine v_ige rfl (fun c11 => ?_) (fun c11 => ?_)
            · refine v_push rfl ?_
              refine v_ret rfl rfl ?_
              exact qeq k (by rw [hog]; split <;> omega)
            · refine v_load rfl rfl ⟨rfl, Nat.le_of_ble_eq_true rfl⟩ ?_
              refine v_goto rfl ?_
              refine v_ret rfl rfl ?_
              exact qeq k (by rw [hog]; split <;> omega)
  have none_ : og T0 T1 a b more i = -1 → ∀ (ah pl : Int) (w : zV), v_wp L (d + 2) 30 81 [(2, 62), (0, (i : Int)), (0, a), (0, b), (0, more), (0, (T1.getD i t0).2.1), (0, ah), (0, pl), (0, -1), w] [] M Q := by
    intro e ah pl w
    rw [e] at k
    refine v_load rfl rfl ⟨rfl, Nat.le_of_ble_eq_true rfl⟩ ?_
    refine v_iflt rfl (fun _ => ?_) (fun h => absurd h (by decide))
    refine v_push rfl ?_
    refine v_ret rfl rfl ?_
    exact k
  refine v_in ?_
  by_cases hc : (T1.getD i t0).2.1 < a
  · have h66 : M 66 (T1.getD i t0).2.1 = olT T0 (T1.getD i t0).2.1 := by rw [o2 _ hf.1 hf.2.1]; unfold olT; rw [if_pos ⟨hf.1, hf.2.1⟩]
    refine v_load rfl rfl ⟨rfl, Nat.le_of_ble_eq_true rfl⟩ ?_
    refine v_getp rfl rfl rfl ?_
    refine v_load rfl rfl ⟨rfl, Nat.le_of_ble_eq_true rfl⟩ ?_
    refine v_callr rfl ⟨Nat.le_of_ble_eq_true rfl, Nat.le_of_ble_eq_true rfl, rfl, Nat.le_of_ble_eq_true rfl, rfl⟩ ?_
    refine S_tkFirst hR ?_
    rw [etk]
    refine v_store rfl ⟨rfl, Nat.le_of_ble_eq_true rfl, Nat.le_of_ble_eq_true rfl, rfl⟩ rfl ?_
    refine v_load rfl rfl ⟨rfl, Nat.le_of_ble_eq_true rfl⟩ ?_
    refine v_load rfl rfl ⟨rfl, Nat.le_of_ble_eq_true rfl⟩ ?_
    refine v_ige rfl (fun h => absurd h (by omega)) (fun _ => ?_)
    refine v_push rfl ?_
    refine v_goto rfl ?_
    refine v_store rfl ⟨rfl, Nat.le_of_ble_eq_true rfl, Nat.le_of_ble_eq_true rfl, rfl⟩ rfl ?_
    refine v_load rfl rfl ⟨rfl, Nat.le_of_ble_eq_true rfl⟩ ?_
    refine v_ifeq rfl (fun h => absurd h (by decide)) (fun _ => ?_)
    refine v_load rfl rfl ⟨rfl, Nat.le_of_ble_eq_true rfl⟩ ?_
    refine v_goto rfl ?_
    refine v_store rfl ⟨rfl, Nat.le_of_ble_eq_true rfl, Nat.le_of_ble_eq_true rfl, rfl⟩ rfl ?_
    refine v_load rfl rfl ⟨rfl, Nat.le_of_ble_eq_true rfl⟩ ?_
    refine v_ifne rfl (fun _ => ?_) (fun h => absurd h (by decide))
    refine v_load rfl rfl ⟨rfl, Nat.le_of_ble_eq_true rfl⟩ ?_
    refine v_iflt rfl (fun h => absurd h (by omega)) (fun _ => ?_)
    refine v_load rfl rfl ⟨rfl, Nat.le_of_ble_eq_true rfl⟩ ?_
    refine v_load rfl rfl ⟨rfl, Nat.le_of_ble_eq_true rfl⟩ ?_
    refine v_getp rfl rfl rfl ?_
    refine v_len rfl ⟨Nat.le_of_ble_eq_true rfl, Nat.le_of_ble_eq_true rfl⟩ rfl ?_
    refine v_ige rfl (fun h => absurd h (by show ¬ (300 : Int) ≤ _; omega)) (fun _ => ?_)
    refine v_load rfl rfl ⟨rfl, Nat.le_of_ble_eq_true rfl⟩ ?_
    refine v_getp rfl rfl rfl ?_
    refine v_load rfl rfl ⟨rfl, Nat.le_of_ble_eq_true rfl⟩ ?_
    refine v_ald9 rfl rfl ⟨by omega, by show _ < (300 : Int); omega⟩ ?_
    rw [h66]
    refine v_goto rfl ?_
    refine v_store rfl ⟨rfl, Nat.le_of_ble_eq_true rfl, Nat.le_of_ble_eq_true rfl, rfl⟩ rfl ?_
    rcases olT_rng T0 (T1.getD i t0).2.1 with e | e
    · rw [e]
      refine none_ ?_ 1 _ _
      unfold og
      rw [if_pos hc, if_neg (fun z => by omega)]
    · refine tail 1 _ _ (Or.inr rfl) e.1 ?_
      unfold og
      rw [if_pos hc]
      split <;> split <;> omega
  · by_cases hc2 : (T1.getD i t0).2.1 - more < b
    · have e : og T0 T1 a b more i = -1 := by unfold og; rw [if_neg hc, if_pos hc2]
      rw [e] at k
      refine v_load rfl rfl ⟨rfl, Nat.le_of_ble_eq_true rfl⟩ ?_
      refine v_getp rfl rfl rfl ?_
      refine v_load rfl rfl ⟨rfl, Nat.le_of_ble_eq_true rfl⟩ ?_
      refine v_callr rfl ⟨Nat.le_of_ble_eq_true rfl, Nat.le_of_ble_eq_true rfl, rfl, Nat.le_of_ble_eq_true rfl, rfl⟩ ?_
      refine S_tkFirst hR ?_
      rw [etk]
      refine v_store rfl ⟨rfl, Nat.le_of_ble_eq_true rfl, Nat.le_of_ble_eq_true rfl, rfl⟩ rfl ?_
      refine v_load rfl rfl ⟨rfl, Nat.le_of_ble_eq_true rfl⟩ ?_
      refine v_load rfl rfl ⟨rfl, Nat.le_of_ble_eq_true rfl⟩ ?_
      refine v_ige rfl (fun _ => ?_) (fun h => absurd h (by omega))
      refine v_push rfl ?_
      refine v_store rfl ⟨rfl, Nat.le_of_ble_eq_true rfl, Nat.le_of_ble_eq_true rfl, rfl⟩ rfl ?_
      refine v_load rfl rfl ⟨rfl, Nat.le_of_ble_eq_true rfl⟩ ?_
      refine v_ifeq rfl (fun _ => ?_) (fun h => absurd h (by decide))
      refine v_load rfl rfl ⟨rfl, Nat.le_of_ble_eq_true rfl⟩ ?_
      refine v_load rfl rfl ⟨rfl, Nat.le_of_ble_eq_true rfl⟩ ?_
      refine v_sub rfl (by omega) ?_
      refine v_store rfl ⟨rfl, Nat.le_of_ble_eq_true rfl, Nat.le_of_ble_eq_true rfl, rfl⟩ rfl ?_
      refine v_load rfl rfl ⟨rfl, Nat.le_of_ble_eq_true rfl⟩ ?_
      refine v_ifne rfl (fun h => absurd h (by decide)) (fun _ => ?_)
      refine v_load rfl rfl ⟨rfl, Nat.le_of_ble_eq_true rfl⟩ ?_
      refine v_load rfl rfl ⟨rfl, Nat.le_of_ble_eq_true rfl⟩ ?_
      refine v_ige rfl (fun h => absurd h (by omega)) (fun _ => ?_)
      refine v_push rfl ?_
      refine v_ret rfl rfl ?_
      exact k
    · have go : ∀ o : Int, o = olT T0 ((T1.getD i t0).2.1 - more) → v_wp L (d + 2) 30 81 [(2, 62), (0, (i : Int)), (0, a), (0, b), (0, more), (0, (T1.getD i t0).2.1), (0, 0), (0, (T1.getD i t0).2.1 - more), (0, o), (9, 0)] [] M Q := by
        intro o ho
        subst ho
        rcases olT_rng T0 ((T1.getD i t0).2.1 - more) with e | e
        · rw [e]
          refine none_ ?_ 0 _ _
          unfold og
          rw [if_neg hc, if_neg hc2, if_neg (fun z => by omega)]
        · refine tail 0 _ _ (Or.inl rfl) e.1 ?_
          unfold og
          rw [if_neg hc, if_neg hc2]
          split <;> split <;> omega
      by_cases hp : 0 ≤ (T1.getD i t0).2.1 - more ∧ (T1.getD i t0).2.1 - more < 300
      · have h66 : M 66 ((T1.getD i t0).2.1 - more) = olT T0 ((T1.getD i t0).2.1 - more) := by rw [o2 _ hp.1 hp.2]; unfold olT; rw [if_pos hp]
        refine v_load rfl rfl ⟨rfl, Nat.le_of_ble_eq_true rfl⟩ ?_
        refine v_getp rfl rfl rfl ?_
        refine v_load rfl rfl ⟨rfl, Nat.le_of_ble_eq_true rfl⟩ ?_
        refine v_callr rfl ⟨Nat.le_of_ble_eq_true rfl, Nat.le_of_ble_eq_true rfl, rfl, Nat.le_of_ble_eq_true rfl, rfl⟩ ?_
        refine S_tkFirst hR ?_
        rw [etk]
        refine v_store rfl ⟨rfl, Nat.le_of_ble_eq_true rfl, Nat.le_of_ble_eq_true rfl, rfl⟩ rfl ?_
        refine v_load rfl rfl ⟨rfl, Nat.le_of_ble_eq_true rfl⟩ ?_
        refine v_load rfl rfl ⟨rfl, Nat.le_of_ble_eq_true rfl⟩ ?_
        refine v_ige rfl (fun _ => ?_) (fun h => absurd h (by omega))
        refine v_push rfl ?_
        refine v_store rfl ⟨rfl, Nat.le_of_ble_eq_true rfl, Nat.le_of_ble_eq_true rfl, rfl⟩ rfl ?_
        refine v_load rfl rfl ⟨rfl, Nat.le_of_ble_eq_true rfl⟩ ?_
        refine v_ifeq rfl (fun _ => ?_) (fun h => absurd h (by decide))
        refine v_load rfl rfl ⟨rfl, Nat.le_of_ble_eq_true rfl⟩ ?_
        refine v_load rfl rfl ⟨rfl, Nat.le_of_ble_eq_true rfl⟩ ?_
        refine v_sub rfl (by omega) ?_
        refine v_store rfl ⟨rfl, Nat.le_of_ble_eq_true rfl, Nat.le_of_ble_eq_true rfl, rfl⟩ rfl ?_
        refine v_load rfl rfl ⟨rfl, Nat.le_of_ble_eq_true rfl⟩ ?_
        refine v_ifne rfl (fun h => absurd h (by decide)) (fun _ => ?_)
        refine v_load rfl rfl ⟨rfl, Nat.le_of_ble_eq_true rfl⟩ ?_
        refine v_load rfl rfl ⟨rfl, Nat.le_of_ble_eq_true rfl⟩ ?_
        refine v_ige rfl (fun _ => ?_) (fun h => absurd h (by omega))
        refine v_load rfl rfl ⟨rfl, Nat.le_of_ble_eq_true rfl⟩ ?_
        refine v_iflt rfl (fun h => absurd h (by omega)) (fun _ => ?_)
        refine v_load rfl rfl ⟨rfl, Nat.le_of_ble_eq_true rfl⟩ ?_
        refine v_load rfl rfl ⟨rfl, Nat.le_of_ble_eq_true rfl⟩ ?_
        refine v_getp rfl rfl rfl ?_
        refine v_len rfl ⟨Nat.le_of_ble_eq_true rfl, Nat.le_of_ble_eq_true rfl⟩ rfl ?_
        refine v_ige rfl (fun h => absurd h (by show ¬ (300 : Int) ≤ _; omega)) (fun _ => ?_)
        refine v_load rfl rfl ⟨rfl, Nat.le_of_ble_eq_true rfl⟩ ?_
        refine v_getp rfl rfl rfl ?_
        refine v_load rfl rfl ⟨rfl, Nat.le_of_ble_eq_true rfl⟩ ?_
        refine v_ald9 rfl rfl ⟨by omega, by show _ < (300 : Int); omega⟩ ?_
        rw [h66]
        refine v_goto rfl ?_
        refine v_store rfl ⟨rfl, Nat.le_of_ble_eq_true rfl, Nat.le_of_ble_eq_true rfl, rfl⟩ rfl ?_
        exact go _ rfl
      · have e : olT T0 ((T1.getD i t0).2.1 - more) = -1 := by unfold olT; rw [if_neg hp]
        by_cases hn : (T1.getD i t0).2.1 - more < 0
        · refine v_load rfl rfl ⟨rfl, Nat.le_of_ble_eq_true rfl⟩ ?_
          refine v_getp rfl rfl rfl ?_
          refine v_load rfl rfl ⟨rfl, Nat.le_of_ble_eq_true rfl⟩ ?_
          refine v_callr rfl ⟨Nat.le_of_ble_eq_true rfl, Nat.le_of_ble_eq_true rfl, rfl, Nat.le_of_ble_eq_true rfl, rfl⟩ ?_
          refine S_tkFirst hR ?_
          rw [etk]
          refine v_store rfl ⟨rfl, Nat.le_of_ble_eq_true rfl, Nat.le_of_ble_eq_true rfl, rfl⟩ rfl ?_
          refine v_load rfl rfl ⟨rfl, Nat.le_of_ble_eq_true rfl⟩ ?_
          refine v_load rfl rfl ⟨rfl, Nat.le_of_ble_eq_true rfl⟩ ?_
          refine v_ige rfl (fun _ => ?_) (fun h => absurd h (by omega))
          refine v_push rfl ?_
          refine v_store rfl ⟨rfl, Nat.le_of_ble_eq_true rfl, Nat.le_of_ble_eq_true rfl, rfl⟩ rfl ?_
          refine v_load rfl rfl ⟨rfl, Nat.le_of_ble_eq_true rfl⟩ ?_
          refine v_ifeq rfl (fun _ => ?_) (fun h => absurd h (by decide))
          refine v_load rfl rfl ⟨rfl, Nat.le_of_ble_eq_true rfl⟩ ?_
          refine v_load rfl rfl ⟨rfl, Nat.le_of_ble_eq_true rfl⟩ ?_
          refine v_sub rfl (by omega) ?_
          refine v_store rfl ⟨rfl, Nat.le_of_ble_eq_true rfl, Nat.le_of_ble_eq_true rfl, rfl⟩ rfl ?_
          refine v_load rfl rfl ⟨rfl, Nat.le_of_ble_eq_true rfl⟩ ?_
          refine v_ifne rfl (fun h => absurd h (by decide)) (fun _ => ?_)
          refine v_load rfl rfl ⟨rfl, Nat.le_of_ble_eq_true rfl⟩ ?_
          refine v_load rfl rfl ⟨rfl, Nat.le_of_ble_eq_true rfl⟩ ?_
          refine v_ige rfl (fun _ => ?_) (fun h => absurd h (by omega))
          refine v_load rfl rfl ⟨rfl, Nat.le_of_ble_eq_true rfl⟩ ?_
          refine v_iflt rfl (fun _ => ?_) (fun h => absurd h (by omega))
          refine v_push rfl ?_
          refine v_store rfl ⟨rfl, Nat.le_of_ble_eq_true rfl, Nat.le_of_ble_eq_true rfl, rfl⟩ rfl ?_
          exact go _ e.symm
        · refine v_load rfl rfl ⟨rfl, Nat.le_of_ble_eq_true rfl⟩ ?_
          refine v_getp rfl rfl rfl ?_
          refine v_load rfl rfl ⟨rfl, Nat.le_of_ble_eq_true rfl⟩ ?_
          refine v_callr rfl ⟨Nat.le_of_ble_eq_true rfl, Nat.le_of_ble_eq_true rfl, rfl, Nat.le_of_ble_eq_true rfl, rfl⟩ ?_
          refine S_tkFirst hR ?_
          rw [etk]
          refine v_store rfl ⟨rfl, Nat.le_of_ble_eq_true rfl, Nat.le_of_ble_eq_true rfl, rfl⟩ rfl ?_
          refine v_load rfl rfl ⟨rfl, Nat.le_of_ble_eq_true rfl⟩ ?_
          refine v_load rfl rfl ⟨rfl, Nat.le_of_ble_eq_true rfl⟩ ?_
          refine v_ige rfl (fun _ => ?_) (fun h => absurd h (by omega))
          refine v_push rfl ?_
          refine v_store rfl ⟨rfl, Nat.le_of_ble_eq_true rfl, Nat.le_of_ble_eq_true rfl, rfl⟩ rfl ?_
          refine v_load rfl rfl ⟨rfl, Nat.le_of_ble_eq_true rfl⟩ ?_
          refine v_ifeq rfl (fun _ => ?_) (fun h => absurd h (by decide))
          refine v_load rfl rfl ⟨rfl, Nat.le_of_ble_eq_true rfl⟩ ?_
          refine v_load rfl rfl ⟨rfl, Nat.le_of_ble_eq_true rfl⟩ ?_
          refine v_sub rfl (by omega) ?_
          refine v_store rfl ⟨rfl, Nat.le_of_ble_eq_true rfl, Nat.le_of_ble_eq_true rfl, rfl⟩ rfl ?_
          refine v_load rfl rfl ⟨rfl, Nat.le_of_ble_eq_true rfl⟩ ?_
          refine v_ifne rfl (fun h => absurd h (by decide)) (fun _ => ?_)
          refine v_load rfl rfl ⟨rfl, Nat.le_of_ble_eq_true rfl⟩ ?_
          refine v_load rfl rfl ⟨rfl, Nat.le_of_ble_eq_true rfl⟩ ?_
          refine v_ige rfl (fun _ => ?_) (fun h => absurd h (by omega))
          refine v_load rfl rfl ⟨rfl, Nat.le_of_ble_eq_true rfl⟩ ?_
          refine v_iflt rfl (fun h => absurd h (by omega)) (fun _ => ?_)
          refine v_load rfl rfl ⟨rfl, Nat.le_of_ble_eq_true rfl⟩ ?_
          refine v_load rfl rfl ⟨rfl, Nat.le_of_ble_eq_true rfl⟩ ?_
          refine v_getp rfl rfl rfl ?_
          refine v_len rfl ⟨Nat.le_of_ble_eq_true rfl, Nat.le_of_ble_eq_true rfl⟩ rfl ?_
          refine v_ige rfl (fun _ => ?_) (fun h => absurd h (by show ¬ _ < (300 : Int); omega))
          refine v_push rfl ?_
          refine v_store rfl ⟨rfl, Nat.le_of_ble_eq_true rfl, Nat.le_of_ble_eq_true rfl, rfl⟩ rfl ?_
          exact go _ e.symm
end KP2
