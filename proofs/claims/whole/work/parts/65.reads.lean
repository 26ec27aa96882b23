/-! THE REFERENCE READS its text: method 219 -/
def cI (f : Nat → Bool) : Nat → Int
  | 0 => 0
  | n + 1 => cI f n + (if f n = true then 1 else 0)
theorem cI_nn (f : Nat → Bool) : ∀ n, 0 ≤ cI f n ∧ cI f n ≤ (n : Int)
  | 0 => ⟨Int.le_refl _, Int.le_refl _⟩
  | n + 1 => by
    have := cI_nn f n
    unfold cI
    split <;> omega
theorem cI_ext {f g : Nat → Bool} : ∀ n, (∀ i, i < n → f i = g i) → cI f n = cI g n
  | 0, _ => rfl
  | n + 1, h => by
    unfold cI
    rw [cI_ext n (fun i hi => h i (by omega)), h n (by omega)]
/-- how many nodes of a sort -/
def mnS (N : List zQ) (s : Int) (n : Nat) : Int := cI (fun i => decide ((N.getD i n0).1 = s)) n
theorem cv_sort {T : List zT} {a b : Int} {ts : List (List zN)} (h : cv T a ts b) : ∀ ν ∈ ts.flatten, 1 ≤ ν.1 ∧ ν.1 ≤ 17 := by
  refine cv_ind (C := fun a ts b => ∀ ν ∈ ts.flatten, 1 ≤ ν.1 ∧ ν.1 ≤ 17) h (fun a ν hν => absurd hν List.not_mem_nil) ?_ ?_ ?_
  · intro a so sg ts b hl _ ih ν hν
    rcases List.mem_append.mp hν with hν | hν
    · have := List.mem_singleton.mp hν
      subst this
      obtain ⟨-, h⟩ := hl
      show 1 ≤ so ∧ so ≤ 17
      omega
    · exact ih ν hν
  · intro a sg ts b _ _ ih ν hν
    rcases List.mem_append.mp hν with hν | hν
    · have := List.mem_singleton.mp hν
      subst this
      exact ⟨by show (1 : Int) ≤ 17; decide, by show (17 : Int) ≤ 17; decide⟩
    · exact ih ν hν
  · intro a m so cs ts b hne hsh _ _ i1 i2 ν hν
    rcases List.mem_append.mp hν with hν | hν
    · rcases List.mem_cons.mp hν with rfl | hν
      · show 1 ≤ so ∧ so ≤ 17
        unfold shp at hsh
        rcases hsh with ⟨rfl, -⟩ | ⟨rfl, -⟩ | ⟨rfl, -⟩ | ⟨rfl, -⟩ | ⟨rfl, -⟩ | ⟨rfl | rfl, -⟩ | ⟨rfl | rfl, -⟩ | ⟨rfl, -⟩ <;> decide
      · exact i1 ν hν
    · exact i2 ν hν
/-- what holds of each node that the parse has -/
theorem NT_all {T : List zT} (hT : tkOK T) {i : Nat} (hi : i < (NT T).length) : (i = 0 ∧ (NT T).getD i n0 = (0, -1, ((bal (itemsOf T)).length : Int), ((bal (itemsOf T)).flatten.length : Int) + 1, 1, 0, (T.length : Int), 0)) ∨ (0 < i ∧ qN ((NT T).getD i n0) ∈ (bal (itemsOf T)).flatten) := by
  have hl := (NT_len hT).1
  have hw := cv_wf (top_cv hT).1
  rw [NT_eq, Int.sub_zero]
  cases i with
  | zero => exact Or.inl ⟨rfl, rfl⟩
  | succ i =>
    right
    refine ⟨by omega, ?_⟩
    rw [List.getD_cons_succ]
    have hll := lay_len hw 0 2 1
    have hm := lay_map hw 0 2 1
    have hi2 : i < (lay 0 2 1 (bal (itemsOf T)).flatten).length := by omega
    have : qN ((lay 0 2 1 (bal (itemsOf T)).flatten).getD i n0) ∈ (lay 0 2 1 (bal (itemsOf T)).flatten).map qN := by
      rw [List.getD_eq_getElem?_getD, List.getElem?_eq_getElem hi2]
      exact List.mem_map_of_mem (List.getElem_mem hi2)
    rw [hm] at this
    exact this
theorem NT_sort {T : List zT} (hT : tkOK T) {i : Nat} (hi : i < (NT T).length) : 0 ≤ ((NT T).getD i n0).1 ∧ ((NT T).getD i n0).1 ≤ 17 ∧ (0 < i → 1 ≤ ((NT T).getD i n0).1) := by
  rcases NT_all hT hi with ⟨e, h⟩ | ⟨h0, h⟩
  · rw [h]; exact ⟨by show (0 : Int) ≤ 0; decide, by show (0 : Int) ≤ 17; decide, fun z => absurd z (by omega)⟩
  · have := cv_sort (top_cv hT).1 _ h
    have e : (qN ((NT T).getD i n0)).1 = ((NT T).getD i n0).1 := rfl
    rw [e] at this
    exact ⟨by omega, this.2, fun _ => this.1⟩
/-- the reference's counts of sorts -/
def RMN (N : List zQ) (M : zM) : Prop := ∀ s, 0 ≤ s → s < 18 → M 112 s = mnS N s N.length
/-- all that the reference has read of a text -/
def RSt (t : List Int) (M : zM) : Prop := RX t M ∧ RR (toks t) M ∧ TM (toks t) M ∧ RLN t M ∧ RMN (NT (toks t)) M
def oRd (M M' : zM) : Prop := (∀ b j, b ≠ 77 → ¬ (81 ≤ b ∧ b ≤ 112) → b ≠ 115 → M' b j = M b j) ∧ ∀ j, j ≠ 10 → j ≠ 19 → ¬ (27 ≤ j ∧ j ≤ 31) → j ≠ 44 → j ≠ 49 → M' 77 j = M 77 j
theorem oRd_rf {M : zM} : oRd M M := ⟨fun _ _ _ _ _ => rfl, fun _ _ _ _ _ _ => rfl⟩
theorem oRd_tr {M M1 M2 : zM} (h : oRd M M1) (h2 : oRd M1 M2) : oRd M M2 := ⟨fun b j a1 a2 a3 => (h2.1 b j a1 a2 a3).trans (h.1 b j a1 a2 a3), fun j a1 a2 a3 a4 a5 => (h2.2 j a1 a2 a3 a4 a5).trans (h.2 j a1 a2 a3 a4 a5)⟩
theorem RM_fr {N : List zQ} {M M' : zM} (h : RM N M) (h1 : M' 77 44 = M 77 44) (h2 : ∀ b j, 100 ≤ b → b ≤ 111 → M' b j = M b j) : RM N M' := ⟨h1.trans h.1, h.2.1, fun i hi => by
  rw [h2 100 _ (by decide) (by decide), h2 101 _ (by decide) (by decide), h2 102 _ (by decide) (by decide), h2 103 _ (by decide) (by decide), h2 105 _ (by decide) (by decide), h2 106 _ (by decide) (by decide), h2 107 _ (by decide) (by decide), h2 108 _ (by decide) (by decide)]
  exact h.2.2 i hi⟩
theorem TM_fr {T : List zT} {M M' : zM} (h : TM T M) (h1 : M' 77 44 = M 77 44) (h2 : ∀ b j, 100 ≤ b → b ≤ 111 → M' b j = M b j) : TM T M' := ⟨RM_fr h.1 h1 h2, fun i hi => by
  rw [h2 104 _ (by decide) (by decide), h2 109 _ (by decide) (by decide)]
  exact h.2.1 i hi, fun j h0 hj => by rw [h2 111 _ (by decide) (by decide)]; exact h.2.2 j h0 hj⟩
theorem RX_fr {t : List Int} {M M' : zM} (h : RX t M) (h1 : M' 77 4 = M 77 4) (h2 : ∀ j, M' 79 j = M 79 j) : RX t M' := ⟨h1.trans h.1, h.2.1, fun i hi => by rw [h2]; exact h.2.2 i hi⟩
theorem RR_fr {T : List zT} {M M' : zM} (h : RR T M) (h1 : M' 77 10 = M 77 10) (h2 : ∀ b j, 81 ≤ b → b ≤ 84 → M' b j = M b j) : RR T M' := ⟨h1.trans h.1, h.2.1, fun i hi => by
  rw [h2 81 _ (by decide) (by decide), h2 82 _ (by decide) (by decide), h2 83 _ (by decide) (by decide), h2 84 _ (by decide) (by decide)]
  exact h.2.2 i hi⟩
theorem RLN_fr {t : List Int} {M M' : zM} (h : RLN t M) (h1 : M' 77 49 = M 77 49) (h2 : ∀ j, M' 115 j = M 115 j) : RLN t M' := ⟨h1.trans h.1, fun i hi => by rw [h2]; exact h.2 i hi⟩
/-- what is read stands while other cells change -/
theorem RSt_fr {t : List Int} {M M' : zM} (h : RSt t M) (h1 : ∀ j, j = 4 ∨ j = 10 ∨ j = 44 ∨ j = 49 → M' 77 j = M 77 j) (h2 : ∀ b j, b = 79 ∨ (81 ≤ b ∧ b ≤ 84) ∨ (100 ≤ b ∧ b ≤ 112) ∨ b = 115 → M' b j = M b j) : RSt t M' :=
  ⟨RX_fr h.1 (h1 4 (by decide)) (fun j => h2 79 j (by decide)), RR_fr h.2.1 (h1 10 (by decide)) (fun b j b1 b2 => h2 b j (by omega)), TM_fr h.2.2.1 (h1 44 (by decide)) (fun b j b1 b2 => h2 b j (by omega)), RLN_fr h.2.2.2.1 (h1 49 (by decide)) (fun j => h2 115 j (by decide)), fun s s0 s1 => by rw [h2 112 s (by decide)]; exact h.2.2.2.2 s s0 s1⟩
section RD
variable {L d : Nat} {M : zM} {Q : Option zV → zM → Prop} {t : List Int}
theorem R_zero_loop (M0 : zM) (k : ∀ M', (∀ s, 0 ≤ s → s < 18 → M' 112 s = 0) → (∀ b j, b ≠ 112 → M' b j = M0 b j) → v_wp L d 219 37 [(2, 77), (0, 18)] [] M' Q) : ∀ (n : Nat) (j : Int) (Mc : zM), n = (18 - j).toNat → 0 ≤ j → j ≤ 18 → (∀ s, 0 ≤ s → s < j → Mc 112 s = 0) → (∀ b i, b ≠ 112 → Mc b i = M0 b i) → v_wp L d 219 18 [(2, 77), (0, j)] [] Mc Q := by
  intro n
  induction n with
  | zero =>
    intro j Mc hn h0 h1 hz ho
    have ej : j = 18 := by omega
    subst ej
    refine v_load rfl rfl ⟨rfl, Nat.le_of_ble_eq_true rfl⟩ ?_
    refine v_push rfl ?_
    refine v_ige rfl (fun _ => ?_) (fun h => absurd h (by decide))
    exact k Mc hz ho
  | succ n ih =>
    intro j Mc hn h0 h1 hz ho
    refine v_load rfl rfl ⟨rfl, Nat.le_of_ble_eq_true rfl⟩ ?_
    refine v_push rfl ?_
    refine v_ige rfl (fun h => absurd h (by omega)) (fun _ => ?_)
    refine v_load rfl rfl ⟨rfl, Nat.le_of_ble_eq_true rfl⟩ ?_
    refine v_getp rfl rfl rfl ?_
    refine v_load rfl rfl ⟨rfl, Nat.le_of_ble_eq_true rfl⟩ ?_
    refine v_push rfl ?_
    refine v_ast9 rfl rfl (by decide) ⟨by omega, by show _ < (18 : Int); omega⟩ ?_
    refine v_iinc rfl rfl rfl (by omega) rfl ?_
    refine v_goto rfl ?_
    refine ih (j + 1) _ (by omega) (by omega) (by omega) (fun s s0 s1 => ?_) (fun b i hb => by rw [u_n1 hb]; exact ho b i hb)
    by_cases e : s = j
    · rw [e, u_eq]
    · rw [u_n2 e]; exact hz s s0 (by omega)
theorem R_many_loop {N : List zQ} (M0 : zM) (h44 : M0 77 44 = (N.length : Int)) (hl : N.length ≤ 1216) (hso : ∀ i : Nat, i < N.length → M0 100 (i : Int) = (N.getD i n0).1 ∧ 0 ≤ (N.getD i n0).1 ∧ (N.getD i n0).1 ≤ 17) (k : ∀ M', RMN N M' → (∀ b j, b ≠ 112 → M' b j = M0 b j) → Q none M') : ∀ (n j : Nat) (Mc : zM), n = N.length - j → j ≤ N.length → (∀ s, 0 ≤ s → s < 18 → Mc 112 s = mnS N s j) → (∀ b i, b ≠ 112 → Mc b i = M0 b i) → v_wp L d 219 39 [(2, 77), (0, (j : Int))] [] Mc Q := by
  intro n
  induction n with
  | zero =>
    intro j Mc hn hj hz ho
    have ej : j = N.length := by omega
    subst ej
    have p44 : Mc 77 44 = (N.length : Int) := (ho 77 44 (by decide)).trans h44
    refine v_load rfl rfl ⟨rfl, Nat.le_of_ble_eq_true rfl⟩ ?_
    refine v_load rfl rfl ⟨rfl, Nat.le_of_ble_eq_true rfl⟩ ?_
    refine v_getx rfl rfl (p44) ?_
    refine v_ige rfl (fun _ => ?_) (fun h => absurd h (by omega))
    refine v_ret rfl rfl ?_
    exact k Mc hz ho
  | succ n ih =>
    intro j Mc hn hj hz ho
    have p44 : Mc 77 44 = (N.length : Int) := (ho 77 44 (by decide)).trans h44
    obtain ⟨s1, s2, s3⟩ := hso j (by omega)
    have g100 : Mc 100 (j : Int) = (N.getD j n0).1 := (ho 100 _ (by decide)).trans s1
    have hz1 := hz (N.getD j n0).1 s2 (by omega)
    have hcn := cI_nn (fun i => decide ((N.getD i n0).1 = (N.getD j n0).1)) j
    have hcn : 0 ≤ mnS N (N.getD j n0).1 j ∧ mnS N (N.getD j n0).1 j ≤ (j : Int) := hcn
    refine v_load rfl rfl ⟨rfl, Nat.le_of_ble_eq_true rfl⟩ ?_
    refine v_load rfl rfl ⟨rfl, Nat.le_of_ble_eq_true rfl⟩ ?_
    refine v_getx rfl rfl (p44) ?_
    refine v_ige rfl (fun h => absurd h (by omega)) (fun _ => ?_)
    refine v_load rfl rfl ⟨rfl, Nat.le_of_ble_eq_true rfl⟩ ?_
    refine v_getp rfl rfl rfl ?_
    refine v_load rfl rfl ⟨rfl, Nat.le_of_ble_eq_true rfl⟩ ?_
    refine v_getp rfl rfl rfl ?_
    refine v_load rfl rfl ⟨rfl, Nat.le_of_ble_eq_true rfl⟩ ?_
    refine v_ald9 rfl rfl ⟨by omega, by show _ < (1600 : Int); omega⟩ ?_
    rw [g100]
    refine v_load rfl rfl ⟨rfl, Nat.le_of_ble_eq_true rfl⟩ ?_
    refine v_getp rfl rfl rfl ?_
    refine v_load rfl rfl ⟨rfl, Nat.le_of_ble_eq_true rfl⟩ ?_
    refine v_getp rfl rfl rfl ?_
    refine v_load rfl rfl ⟨rfl, Nat.le_of_ble_eq_true rfl⟩ ?_
    refine v_ald9 rfl rfl ⟨by omega, by show _ < (1600 : Int); omega⟩ ?_
    rw [g100]
    refine v_ald9 rfl rfl ⟨by omega, by show _ < (18 : Int); omega⟩ ?_
    rw [hz1]
    refine v_push rfl ?_
    refine v_add rfl (by omega) ?_
    refine v_ast9 rfl rfl (by decide) ⟨by omega, by show _ < (18 : Int); omega⟩ ?_
    refine v_iinc rfl rfl rfl (by omega) rfl ?_
    refine v_goto rfl ?_
    refine ih (j + 1) _ (by omega) (by omega) (fun s s0 s1' => ?_) (fun b i hb => by rw [u_n1 hb]; exact ho b i hb)
    show _ = mnS N s j + (if decide ((N.getD j n0).1 = s) = true then 1 else 0)
    by_cases e : (N.getD j n0).1 = s
    · rw [if_pos (by simpa using e), e, u_eq]
    · rw [if_neg (by simpa using e), u_n2 (fun z => e z.symm), hz s s0 s1']; omega
theorem R_reads (hX : RX t M) (k : ∀ M', RSt t M' → oRd M M' → Q none M') : v_call L (d + 10) 219 [(2, 77)] M Q := by
  have hT := tkOK_toks t
  have hxl := hX.2.1
  have htl := toks_len t
  refine v_in ?_
  refine v_load rfl rfl ⟨rfl, Nat.le_of_ble_eq_true rfl⟩ ?_
  refine v_callr rfl ⟨Nat.le_of_ble_eq_true rfl, Nat.le_of_ble_eq_true rfl, rfl, Nat.le_of_ble_eq_true rfl, rfl⟩ ?_
  refine R_splits (d := d + 5) hX (fun M1 r1 o1 => ?_)
  have x1 : RX t M1 := RX_oS hX o1
  refine v_load rfl rfl ⟨rfl, Nat.le_of_ble_eq_true rfl⟩ ?_
  refine v_callr rfl ⟨Nat.le_of_ble_eq_true rfl, Nat.le_of_ble_eq_true rfl, rfl, Nat.le_of_ble_eq_true rfl, rfl⟩ ?_
  refine R_builds x1 r1 (fun M2 V2 I2 x2 r2 a1 a2 a3 a4 a5 a6 o2 => ?_)
  refine v_load rfl rfl ⟨rfl, Nat.le_of_ble_eq_true rfl⟩ ?_
  refine v_callr rfl ⟨Nat.le_of_ble_eq_true rfl, Nat.le_of_ble_eq_true rfl, rfl, Nat.le_of_ble_eq_true rfl, rfl⟩ ?_
  refine R_numbers (d := d + 8) (by omega) a1 a2 a3 a4 a5 a6 (fun M3 t3 o3 => ?_)
  have x3 : RX t M3 := RX_fr x2 (o3 77 4 (by decide) (by decide)) (fun j => o3 79 j (by decide) (by omega))
  refine v_load rfl rfl ⟨rfl, Nat.le_of_ble_eq_true rfl⟩ ?_
  refine v_callr rfl ⟨Nat.le_of_ble_eq_true rfl, Nat.le_of_ble_eq_true rfl, rfl, Nat.le_of_ble_eq_true rfl, rfl⟩ ?_
  refine R_lines x3 (fun M4 l4 o4 => ?_)
  refine v_push rfl ?_
  refine v_store rfl ⟨rfl, Nat.le_of_ble_eq_true rfl, Nat.le_of_ble_eq_true rfl, rfl⟩ rfl ?_
  have or4 : oRd M M4 := ⟨fun b j b1 b2 b3 => by
    rw [o4 b j b3 (fun e => absurd e b1), o3 b j (by omega) (fun e => absurd e b1), o2.1 b j b1 (by omega), o1.1 b j b1 (by omega)], fun j j1 j2 j3 j4 j5 => by
    rw [o4 77 j (by decide) (fun _ => j5), o3 77 j (by decide) (fun _ => j4), o2.2 j j2 j3, o1.2 j j1]⟩
  have x4 : RX t M4 := RX_fr x3 (o4 77 4 (by decide) (by decide)) (fun j => o4 79 j (by decide) (by omega))
  have r4 : RR (toks t) M4 := RR_fr r2 (by rw [o4 77 10 (by decide) (by decide), o3 77 10 (by decide) (by decide)]) (fun b j b1 b2 => by rw [o4 b j (by omega) (by omega), o3 b j (by omega) (by omega)])
  have t4 : TM (toks t) M4 := TM_fr t3 (o4 77 44 (by decide) (by decide)) (fun b j b1 b2 => o4 b j (by omega) (by omega))
  refine R_zero_loop M4 (fun M5 z5 o5 => ?_) _ 0 M4 rfl (by decide) (by decide) (fun s s0 s1 => absurd s1 (by omega)) (fun _ _ _ => rfl)
  refine v_push rfl ?_
  refine v_store rfl ⟨rfl, Nat.le_of_ble_eq_true rfl, Nat.le_of_ble_eq_true rfl, rfl⟩ rfl ?_
  have hNl : ((NT (toks t)).map p1).length = (NT (toks t)).length := List.length_map ..
  refine R_many_loop (N := NT (toks t)) M5 (by rw [o5 77 44 (by decide), t4.1.1, hNl]) (by rw [← hNl]; exact t4.1.2.1) (fun i hi => ?_) (fun M6 m6 o6 => ?_) _ 0 M5 rfl (Nat.zero_le _) (fun s s0 s1 => z5 s s0 s1) (fun _ _ _ => rfl)
  · have := (t4.1.2.2 i (by omega)).1
    rw [qd_map hi] at this
    have hs := NT_sort hT hi
    exact ⟨by rw [o5 100 _ (by decide)]; exact this, hs.1, hs.2.1⟩
  · have o56 : ∀ b j, b ≠ 112 → M6 b j = M4 b j := fun b j hb => (o6 b j hb).trans (o5 b j hb)
    refine k M6 ⟨RX_fr x4 (o56 77 4 (by decide)) (fun j => o56 79 j (by decide)), RR_fr r4 (o56 77 10 (by decide)) (fun b j _ _ => o56 b j (by omega)), TM_fr t4 (o56 77 44 (by decide)) (fun b j _ _ => o56 b j (by omega)), RLN_fr l4 (o56 77 49 (by decide)) (fun j => o56 115 j (by decide)), m6⟩ (oRd_tr or4 ⟨fun b j _ b2 _ => o56 b j (by omega), fun j _ _ _ _ _ => o56 77 j (by decide)⟩)
end RD
