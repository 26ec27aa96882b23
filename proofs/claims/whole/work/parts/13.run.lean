section ZS
variable {p : Program} {l : Launch} {e : Env} {R : Room} {s : State} {m : MethodId} {args : Array Value} {below : List Frame} {meth : Method} {c : Code} {Q : State → Prop}
variable {cc : ByteArray} {nL : Nat} {own : String} {D : va_G} {ca : Nat → ClassId} {ad : Int → Option Nat} {B n0 s0 : Nat}
variable {isI : Bool} {rt : Option FieldType} {pc n : Nat} {ll st : List zV} {σ : zS} {g g2 g3 : Int} {q : List (Int × Int)}
theorem z_stp_mono {o : zO} {pc' : Nat} {ll' st' : List zV} {σ1 : zS} (hz : z_stp o ll st σ = some (pc', ll', st', σ1)) : σ.1 ≤ σ1.1 ∧ σ.2.1 ≤ σ1.2.1 := by
  unfold z_stp at hz
  repeat' split at hz
  all_goals first | (cases hz; done) | (cases hz; exact ⟨Nat.le_refl _, Nat.le_refl _⟩) | (cases hz; exact ⟨Nat.le_succ _, Nat.le_add_right _ _⟩)
set_option maxHeartbeats 4000000 in
theorem zs_all {o : zO} {pc' : Nat} {ll' st' : List zV} {σ1 : zS} (C : z_C p s m args c cc nL own D ca ad B n0) (hR : 1 ≤ R.frames ∧ 32 ≤ R.locals) (hR5 : o.1 < 30 ∨ (6 ≤ R.frames ∧ 240 ≤ R.locals)) (hcap : σ1.1 - n0 ≤ R.cells ∧ σ1.2.1 - s0 ≤ R.slots) (hin2 : isI = true → meth.name = "<init>") (hg : z_good own isI rt cc pc o = true) (hz : z_stp o ll st σ = some (pc', ll', st', σ1)) (k : z_G p l e R s m args below meth c Q nL D ca ad B n0 s0 pc' ll' st' σ1) : z_G p l e R s m args below meth c Q nL D ca ad B n0 s0 pc ll st σ := by
  unfold z_stp at hz
  split at hz
  · cases hz; exact zs_0 C hg k
  · split at hz
    · split at hz
      · rename_i h1 h2; cases hz; exact zs_1 C hg h1 h2 k
      · cases hz
    · cases hz
  · split at hz
    · rename_i h1; cases hz; exact zs_2 C hg h1 k
    · cases hz
  · split at hz
    · split at hz
      · rename_i h1 h2; cases hz; exact zs_3 C hg h1 h2 k
      · cases hz
    · cases hz
  · split at hz
    · rename_i h1; cases hz; exact zs_4 C hg h1 k
    · cases hz
  · split at hz
    · rename_i h1; subst h1; cases hz; exact zs_5c C hg k
    · rename_i h4
      split at hz
      · rename_i h1; cases hz; exact zs_5 C hg h1 h4 k
      · cases hz
  · split at hz
    · rename_i h1; obtain ⟨rfl, rfl⟩ := h1; cases hz; exact zs_6a C hg k
    · split at hz
      · rename_i h1; obtain ⟨rfl, rfl⟩ := h1; cases hz; exact zs_6b C hg k
      · cases hz
  · split at hz
    · rename_i h1; cases hz; exact zs_7 C hg h1 k
    · cases hz
  · split at hz
    · rename_i h1; cases hz; exact zs_8 C hg h1 k
    · cases hz
  · split at hz
    · rename_i h1; cases hz; exact zs_9 C hg h1 k
    · cases hz
  · cases hz; exact zs_10 C hg k
  · cases hz; exact zs_11 C hg k
  · cases hz; exact zs_12 C hg k
  · cases hz; exact zs_13 C hg k
  · cases hz; exact zs_14 C hg k
  · split at hz
    · rename_i h1; cases hz; exact zs_15 C hg h1 k
    · cases hz
  · split at hz
    · rename_i h1; cases hz; exact zs_16 C hin2 hg h1.1 h1.2.1 h1.2.2 k
    · cases hz
  · split at hz
    · rename_i h1; cases hz; exact zs_17 C hg h1.1 h1.2.1 h1.2.2 k
    · cases hz
  · split at hz
    · rename_i h1; cases hz; exact zs_18 C hg h1.1 h1.2.1 h1.2.2.1 h1.2.2.2.1 h1.2.2.2.2.1 h1.2.2.2.2.2.1 h1.2.2.2.2.2.2 k
    · cases hz
  · split at hz
    · rename_i h1; cases hz; exact zs_19 C hg h1 k
    · cases hz
  · cases hz; exact zs_20 C hcap hg k
  · split at hz
    · rename_i h1; cases hz; exact zs_22 C hcap hg h1 k
    · cases hz
  · split at hz
    · rename_i h1; cases hz; exact zs_21 C hcap hg h1 k
    · cases hz
  · split at hz
    · rename_i h1; cases hz; exact zs_23 C hR hg h1 k
    · cases hz
  · cases hz; exact zs_24 C hg k
  · split at hz
    · cases hz
    · rename_i h4
      split at hz
      · rename_i h1; subst h1; cases hz
        exact zs_28 C hR hcap hg (by omega) k
      · rename_i h1; cases hz
        refine zs_28 C hR hcap hg (by omega) ?_
        rw [if_neg h1]
        exact k
  · split at hz
    · rename_i h1; cases hz; exact zs_29 C hg h1 k
    · cases hz
  · split at hz
    · rename_i h1; cases hz; exact zs_30 C (hR5.resolve_left (show ¬ (30 : Nat) < 30 by decide)) hcap hg h1 k
    · cases hz
  · split at hz
    · rename_i h1; cases hz; exact zs_31 C (hR5.resolve_left (show ¬ (31 : Nat) < 30 by decide)) hcap hg h1 k
    · cases hz
  · cases hz
end ZS
theorem z_ex_mono {cd : Nat → Nat → zO} {ml : Nat → Nat} : ∀ (f d k pc : Nat) (ll st : List zV) (σ : zS) (rv : Option zV) (σ' : zS), z_ex cd ml f d k pc ll st σ = some (rv, σ') → σ.1 ≤ σ'.1 ∧ σ.2.1 ≤ σ'.2.1
  | 0, _, _, _, _, _, _, _, _, h => by simp [z_ex] at h
  | f + 1, d, k, pc, ll, st, σ, rv, σ', h => by
    unfold z_ex at h
    split at h
    · split at h
      · cases h
      · split at h
        · split at h
          · rename_i h1
            have a := z_ex_mono f _ _ _ _ _ _ _ _ h1
            have b := z_ex_mono f _ _ _ _ _ _ _ _ h
            omega
          · cases h
        · cases h
    · split at h
      · cases h; exact ⟨Nat.le_refl _, Nat.le_refl _⟩
      · cases h
    · split at h
      · split at h
        · rename_i h1
          have a := z_stp_mono h1
          have b := z_ex_mono f _ _ _ _ _ _ _ _ h
          omega
        · cases h
      · cases h
