/-! THE REFERENCE'S TOKENS: methods 174 to 187 -/
section VZ
variable {L d m pc n : Nat} {ll : List zV} {M : zM} {Q : Option zV → zM → Prop} {g g1 g2 g3 : Int} {q : List (Int × Int)}
theorem v_retz {x : Int} (hc : z_cd m pc = (26, n, 3, g, g1, q)) (hx : x = 0 ∨ x = 1) (k : Q (some (0, x)) M) : v_wp L d m pc ll [(0, x)] M Q := v_ret hc (by simp [z_ret, z_st, z_fitv, hx]) k
end VZ
theorem b2i_01 (b : Bool) : b2i b = 0 ∨ b2i b = 1 := by cases b <;> simp [b2i]
/-- the reference's text -/
def RX (t : List Int) (M : zM) : Prop := M 77 4 = (t.length : Int) ∧ t.length ≤ 300 ∧ ∀ i : Nat, i < t.length → M 79 (i : Int) = t.getD i 0
theorem RX_at {t : List Int} {M : zM} (h : RX t M) {i : Int} (hi : 0 ≤ i ∧ i < (t.length : Int)) : M 79 i = tb t i := by
  unfold tb
  rw [if_pos hi]
  have := h.2.2 i.toNat (by omega)
  rw [show ((i.toNat : Nat) : Int) = i by omega] at this
  exact this
/-- the reference's tokens -/
def RR (T : List zT) (M : zM) : Prop := M 77 10 = (T.length : Int) ∧ T.length ≤ 300 ∧ ∀ i : Nat, i < T.length → M 81 (i : Int) = (T.getD i t0).1 ∧ M 82 (i : Int) = (T.getD i t0).2.1 ∧ M 83 (i : Int) = (T.getD i t0).2.2.1 - (T.getD i t0).2.1 ∧ M 84 (i : Int) = (T.getD i t0).2.2.2.1
/-- what the splitting may change: the number of tokens, their rows -/
def z_oS (M M' : zM) : Prop := (∀ b j, b ≠ 77 → ¬ (81 ≤ b ∧ b ≤ 84) → M' b j = M b j) ∧ ∀ j, j ≠ 10 → M' 77 j = M 77 j
theorem z_oS_rf {M : zM} : z_oS M M := ⟨fun _ _ _ _ => rfl, fun _ _ => rfl⟩
theorem z_oS_tr {M M1 M2 : zM} (h : z_oS M M1) (h2 : z_oS M1 M2) : z_oS M M2 := ⟨fun b j a c => (h2.1 b j a c).trans (h.1 b j a c), fun j a => (h2.2 j a).trans (h.2 j a)⟩
theorem RX_oS {t : List Int} {M M' : zM} (h : RX t M) (ho : z_oS M M') : RX t M' := ⟨by rw [ho.2 4 (by decide)]; exact h.1, h.2.1, fun i hi => by rw [ho.1 79 i (by decide) (by omega)]; exact h.2.2 i hi⟩
section RK
variable {L d : Nat} {M : zM} {Q : Option zV → zM → Prop} {T : List zT} {t : List Int}
theorem R_in {v lo hi : Int} (k : Q (some (0, b2i (decide (lo ≤ v ∧ v ≤ hi)))) M) : v_call L d 174 [(0, v), (0, lo), (0, hi)] M Q := by
  refine v_in ?_
  unfold b2i at k
  repeat' (first
    | refine v_load rfl rfl ⟨rfl, Nat.le_of_ble_eq_true rfl⟩ ?_
    | refine v_getp rfl rfl rfl ?_
    | refine v_geti rfl rfl ?_
    | refine v_push rfl ?_
    | refine v_goto rfl ?_
    | refine v_ret rfl rfl ?_
    | refine v_store rfl ⟨rfl, Nat.le_of_ble_eq_true rfl, Nat.le_of_ble_eq_true rfl, rfl⟩ rfl ?_
    | refine v_iinc rfl rfl rfl (by omega) rfl ?_
    | refine v_add rfl (by omega) ?_
    | refine v_sub rfl (by omega) ?_
    | refine v_ige rfl (fun _ => ?_) (fun _ => ?_)
    | refine v_ine rfl (fun _ => ?_) (fun _ => ?_)
    | refine v_ifeq rfl (fun _ => ?_) (fun _ => ?_)
    | refine v_ifne rfl (fun _ => ?_) (fun _ => ?_)
    | refine v_ieq rfl (fun _ => ?_) (fun _ => ?_)
    | refine v_iflt rfl (fun _ => ?_) (fun _ => ?_)
    | refine v_ile rfl (fun _ => ?_) (fun _ => ?_)
    | refine v_ilt rfl (fun _ => ?_) (fun _ => ?_)
    | refine v_igt rfl (fun _ => ?_) (fun _ => ?_)
    | refine v_ifle rfl (fun _ => ?_) (fun _ => ?_)
    | refine v_ifge rfl (fun _ => ?_) (fun _ => ?_)
    | refine v_ifgt rfl (fun _ => ?_) (fun _ => ?_)
    | refine v_ald9 rfl rfl (by refine ⟨?_, ?_⟩ <;> first | omega | (show _ < (300 : Int); omega) | (show _ < (1216 : Int); omega) | (show _ < (1600 : Int); omega) | (show _ < (301 : Int); omega) | (show _ < (18 : Int); omega) | (show _ < (100 : Int); omega) | (show _ < (20 : Int); omega) | (show _ < (13 : Int); omega) | (show _ < (3612 : Int); omega)) ?_
    | refine v_ast9 rfl rfl (by decide) (by refine ⟨?_, ?_⟩ <;> first | omega | (show _ < (300 : Int); omega) | (show _ < (1216 : Int); omega) | (show _ < (1600 : Int); omega) | (show _ < (301 : Int); omega) | (show _ < (18 : Int); omega) | (show _ < (100 : Int); omega) | (show _ < (20 : Int); omega) | (show _ < (13 : Int); omega) | (show _ < (3612 : Int); omega)) ?_
    | refine v_puti rfl rfl rfl ?_
    | refine v_len rfl ⟨Nat.le_of_ble_eq_true rfl, Nat.le_of_ble_eq_true rfl⟩ rfl ?_
    | refine v_getz rfl rfl ?_
    | refine v_getl rfl rfl ?_
    | refine v_dup rfl (Or.inl rfl) ?_
    | refine v_dup rfl (Or.inr rfl) ?_
    | refine v_pop rfl (Or.inl rfl) ?_
    | refine v_callr rfl ⟨Nat.le_of_ble_eq_true rfl, Nat.le_of_ble_eq_true rfl, rfl, Nat.le_of_ble_eq_true rfl, rfl⟩ ?_)
  all_goals first
    | (rw [if_pos (decide_eq_true (by omega))] at k; exact k)
    | (rw [if_neg (by simp; omega)] at k; exact k)
theorem R_isLetter {c : Int} (k : Q (some (0, b2i (isLet c))) M) : v_call L (d + 1) 178 [(0, c)] M Q := by
  refine v_in ?_
  refine v_load rfl rfl ⟨rfl, Nat.le_of_ble_eq_true rfl⟩ ?_
  refine v_push rfl ?_
  refine v_push rfl ?_
  refine v_callr rfl ⟨Nat.le_of_ble_eq_true rfl, Nat.le_of_ble_eq_true rfl, rfl, Nat.le_of_ble_eq_true rfl, rfl⟩ ?_
  refine R_in ?_
  exact v_retz rfl (b2i_01 _) k
theorem R_isDigit {c : Int} (k : Q (some (0, b2i (isDig c))) M) : v_call L (d + 1) 179 [(0, c)] M Q := by
  refine v_in ?_
  refine v_load rfl rfl ⟨rfl, Nat.le_of_ble_eq_true rfl⟩ ?_
  refine v_push rfl ?_
  refine v_push rfl ?_
  refine v_callr rfl ⟨Nat.le_of_ble_eq_true rfl, Nat.le_of_ble_eq_true rfl, rfl, Nat.le_of_ble_eq_true rfl, rfl⟩ ?_
  refine R_in ?_
  exact v_retz rfl (b2i_01 _) k
theorem R_isMark {c : Int} (k : Q (some (0, b2i (isMk c))) M) : v_call L d 180 [(0, c)] M Q := by
  refine v_in ?_
  refine v_load rfl rfl ⟨rfl, Nat.le_of_ble_eq_true rfl⟩ ?_
  refine v_lsw rfl ?_
  by_cases h : c = 61 ∨ c = 40 ∨ c = 41 ∨ c = 123 ∨ c = 125 ∨ c = 59 ∨ c = 44 ∨ c = 43 ∨ c = 45 ∨ c = 42 ∨ c = 47
  · have hm : b2i (isMk c) = 1 := by simp only [b2i, isMk, decide_eq_true h, if_true]
    rw [hm] at k
    rcases h with rfl | rfl | rfl | rfl | rfl | rfl | rfl | rfl | rfl | rfl | rfl <;> exact v_push rfl (v_ret rfl rfl k)
  · have hm : b2i (isMk c) = 0 := by simp only [b2i, isMk, decide_eq_false h]; rfl
    rw [hm] at k
    simp only [z_sw]
    repeat rw [if_neg (by omega)]
    exact v_push rfl (v_ret rfl rfl k)
theorem R_tokenIs {so f m r : Int} (hR : RR T M) (hT : T.length < 300) (k : ∀ M' : zM, (∀ sg : Int, RR (T ++ [(so, f, f + m, r, sg)]) M') → z_oS M M' → Q none M') : v_call L d 181 [(2, 77), (0, so), (0, f), (0, m), (0, r)] M Q := by
  have h1 := hR.1
  refine v_in ?_
  repeat' (first
    | refine v_getx (x := (T.length : Int)) rfl rfl (by simp (disch := decide) only [u_n1, h1]) ?_
    | (exfalso; omega)
    | refine v_load rfl rfl ⟨rfl, Nat.le_of_ble_eq_true rfl⟩ ?_
    | refine v_getp rfl rfl rfl ?_
    | refine v_geti rfl rfl ?_
    | refine v_push rfl ?_
    | refine v_goto rfl ?_
    | refine v_ret rfl rfl ?_
    | refine v_store rfl ⟨rfl, Nat.le_of_ble_eq_true rfl, Nat.le_of_ble_eq_true rfl, rfl⟩ rfl ?_
    | refine v_iinc rfl rfl rfl (by omega) rfl ?_
    | refine v_add rfl (by omega) ?_
    | refine v_sub rfl (by omega) ?_
    | refine v_ige rfl (fun _ => ?_) (fun _ => ?_)
    | refine v_ine rfl (fun _ => ?_) (fun _ => ?_)
    | refine v_ifeq rfl (fun _ => ?_) (fun _ => ?_)
    | refine v_ifne rfl (fun _ => ?_) (fun _ => ?_)
    | refine v_ieq rfl (fun _ => ?_) (fun _ => ?_)
    | refine v_iflt rfl (fun _ => ?_) (fun _ => ?_)
    | refine v_ile rfl (fun _ => ?_) (fun _ => ?_)
    | refine v_ilt rfl (fun _ => ?_) (fun _ => ?_)
    | refine v_igt rfl (fun _ => ?_) (fun _ => ?_)
    | refine v_ifle rfl (fun _ => ?_) (fun _ => ?_)
    | refine v_ifge rfl (fun _ => ?_) (fun _ => ?_)
    | refine v_ifgt rfl (fun _ => ?_) (fun _ => ?_)
    | refine v_ald9 rfl rfl (by refine ⟨?_, ?_⟩ <;> first | omega | (show _ < (300 : Int); omega) | (show _ < (1216 : Int); omega) | (show _ < (1600 : Int); omega) | (show _ < (301 : Int); omega) | (show _ < (18 : Int); omega) | (show _ < (100 : Int); omega) | (show _ < (20 : Int); omega) | (show _ < (13 : Int); omega) | (show _ < (3612 : Int); omega)) ?_
    | refine v_ast9 rfl rfl (by decide) (by refine ⟨?_, ?_⟩ <;> first | omega | (show _ < (300 : Int); omega) | (show _ < (1216 : Int); omega) | (show _ < (1600 : Int); omega) | (show _ < (301 : Int); omega) | (show _ < (18 : Int); omega) | (show _ < (100 : Int); omega) | (show _ < (20 : Int); omega) | (show _ < (13 : Int); omega) | (show _ < (3612 : Int); omega)) ?_
    | refine v_puti rfl rfl rfl ?_
    | refine v_len rfl ⟨Nat.le_of_ble_eq_true rfl, Nat.le_of_ble_eq_true rfl⟩ rfl ?_
    | refine v_getz rfl rfl ?_
    | refine v_getl rfl rfl ?_
    | refine v_dup rfl (Or.inl rfl) ?_
    | refine v_dup rfl (Or.inr rfl) ?_
    | refine v_pop rfl (Or.inl rfl) ?_
    | refine v_callr rfl ⟨Nat.le_of_ble_eq_true rfl, Nat.le_of_ble_eq_true rfl, rfl, Nat.le_of_ble_eq_true rfl, rfl⟩ ?_)
  refine k _ (fun sg => ⟨by rw [u_eq]; simp, by simp; omega, fun i hi => ?_⟩) ⟨fun b j hb hb2 => ?_, fun j hj => ?_⟩
  · by_cases e1 : i = T.length
    · subst e1
      simp (disch := decide) only [u_n1, u_eq]
      rw [List.getD_eq_getElem?_getD, List.getElem?_append_right (Nat.le_refl _)]
      simp
      omega
    · have hi2 : i < T.length := by simp at hi; omega
      have := hR.2.2 i hi2
      have e2 : ((i : Nat) : Int) ≠ (T.length : Int) := by omega
      have e3 : (T ++ [(so, f, f + m, r, sg)]).getD i t0 = T.getD i t0 := by rw [List.getD_eq_getElem?_getD, List.getD_eq_getElem?_getD, List.getElem?_append_left hi2]
      rw [e3]
      simp (disch := first | decide | omega) only [u_n1, u_n2]
      exact this
  · simp (disch := omega) only [u_n1]
  · rw [u_n2 hj]
    simp (disch := decide) only [u_n1]
theorem R_lineEnd_loop (hX : RX t M) {fr : Int} : ∀ (n : Nat) (i : Int), n = ((t.length : Int) - i).toNat → 0 ≤ i → i ≤ (t.length : Int) → Q (some (0, skp (notC 10) t i)) M → v_wp L d 182 2 [(2, 77), (0, fr), (0, i)] [] M Q := by
  have v1 := hX.1
  have v2 := hX.2.1
  intro n
  induction n with
  | zero =>
    intro i hn hi hi2 k
    rw [skp_end (by omega)] at k
    refine v_load rfl rfl ⟨rfl, Nat.le_of_ble_eq_true rfl⟩ ?_
    refine v_load rfl rfl ⟨rfl, Nat.le_of_ble_eq_true rfl⟩ ?_
    refine v_getx rfl rfl v1 ?_
    refine v_ige rfl (fun _ => ?_) (fun h => absurd h (by omega))
    refine v_load rfl rfl ⟨rfl, Nat.le_of_ble_eq_true rfl⟩ ?_
    exact v_ret rfl rfl k
  | succ n ih =>
    intro i hn hi hi2 k
    refine v_load rfl rfl ⟨rfl, Nat.le_of_ble_eq_true rfl⟩ ?_
    refine v_load rfl rfl ⟨rfl, Nat.le_of_ble_eq_true rfl⟩ ?_
    refine v_getx rfl rfl v1 ?_
    refine v_ige rfl (fun h => absurd h (by omega)) (fun _ => ?_)
    refine v_load rfl rfl ⟨rfl, Nat.le_of_ble_eq_true rfl⟩ ?_
    refine v_getp rfl rfl rfl ?_
    refine v_load rfl rfl ⟨rfl, Nat.le_of_ble_eq_true rfl⟩ ?_
    refine v_ald9 rfl rfl ⟨hi, by show i < (300 : Int); omega⟩ ?_
    rw [RX_at hX ⟨hi, by omega⟩]
    refine v_push rfl ?_
    refine v_ieq rfl (fun h => ?_) (fun h => ?_)
    · rw [skp_no (by simp [notC, h])] at k
      refine v_load rfl rfl ⟨rfl, Nat.le_of_ble_eq_true rfl⟩ ?_
      exact v_ret rfl rfl k
    · rw [skp_in (by omega) (by simp [notC, h])] at k
      refine v_load rfl rfl ⟨rfl, Nat.le_of_ble_eq_true rfl⟩ ?_
      refine v_push rfl ?_
      refine v_add rfl (by omega) ?_
      refine v_store rfl ⟨rfl, Nat.le_of_ble_eq_true rfl, Nat.le_of_ble_eq_true rfl, rfl⟩ rfl ?_
      refine v_goto rfl ?_
      exact ih (i + 1) (by omega) (by omega) (by omega) k
theorem R_lineEnd {fr : Int} (hX : RX t M) (h0 : 0 ≤ fr ∧ fr ≤ (t.length : Int)) (k : Q (some (0, skp (notC 10) t fr)) M) : v_call L d 182 [(2, 77), (0, fr)] M Q := by
  refine v_in ?_
  refine v_load rfl rfl ⟨rfl, Nat.le_of_ble_eq_true rfl⟩ ?_
  refine v_store rfl ⟨rfl, Nat.le_of_ble_eq_true rfl, Nat.le_of_ble_eq_true rfl, rfl⟩ rfl ?_
  exact R_lineEnd_loop hX _ fr rfl h0.1 h0.2 k
theorem R_word_loop (hX : RX t M) (hR : RR T M) (hT : T.length < 300) {fr : Int} (hfr : 0 ≤ fr) (k : ∀ M' : zM, (∀ sg : Int, RR (T ++ [(0, fr, skp isLet t fr, skp isLet t fr, sg)]) M') → z_oS M M' → Q (some (0, skp isLet t fr)) M') : ∀ (n : Nat) (i : Int), n = ((t.length : Int) - i).toNat → fr ≤ i → i ≤ (t.length : Int) → skp isLet t fr = skp isLet t i → v_wp L (d + 2) 183 2 [(2, 77), (0, fr), (0, i)] [] M Q := by
  have v1 := hX.1
  have v2 := hX.2.1
  have fin : ∀ i : Int, fr ≤ i → i ≤ (t.length : Int) → skp isLet t fr = i → v_wp L (d + 2) 183 29 [(2, 77), (0, fr), (0, i)] [] M Q := by
    intro i hi hi2 he
    refine v_load rfl rfl ⟨rfl, Nat.le_of_ble_eq_true rfl⟩ ?_
    refine v_push rfl ?_
    refine v_load rfl rfl ⟨rfl, Nat.le_of_ble_eq_true rfl⟩ ?_
    refine v_load rfl rfl ⟨rfl, Nat.le_of_ble_eq_true rfl⟩ ?_
    refine v_load rfl rfl ⟨rfl, Nat.le_of_ble_eq_true rfl⟩ ?_
    refine v_sub rfl (by omega) ?_
    refine v_load rfl rfl ⟨rfl, Nat.le_of_ble_eq_true rfl⟩ ?_
    refine v_callr rfl ⟨Nat.le_of_ble_eq_true rfl, Nat.le_of_ble_eq_true rfl, rfl, Nat.le_of_ble_eq_true rfl, rfl⟩ ?_
    refine R_tokenIs hR hT (fun M' hR' ho => ?_)
    refine v_load rfl rfl ⟨rfl, Nat.le_of_ble_eq_true rfl⟩ ?_
    refine v_ret rfl rfl ?_
    rw [show fr + (i - fr) = i by omega] at hR'
    rw [he] at k
    exact k M' hR' ho
  intro n
  induction n with
  | zero =>
    intro i hn hi hi2 he
    refine v_load rfl rfl ⟨rfl, Nat.le_of_ble_eq_true rfl⟩ ?_
    refine v_load rfl rfl ⟨rfl, Nat.le_of_ble_eq_true rfl⟩ ?_
    refine v_getx rfl rfl v1 ?_
    refine v_ige rfl (fun _ => fin i hi hi2 (by rw [he, skp_end (by omega)])) (fun h => absurd h (by omega))
  | succ n ih =>
    intro i hn hi hi2 he
    refine v_load rfl rfl ⟨rfl, Nat.le_of_ble_eq_true rfl⟩ ?_
    refine v_load rfl rfl ⟨rfl, Nat.le_of_ble_eq_true rfl⟩ ?_
    refine v_getx rfl rfl v1 ?_
    refine v_ige rfl (fun h => absurd h (by omega)) (fun _ => ?_)
    refine v_load rfl rfl ⟨rfl, Nat.le_of_ble_eq_true rfl⟩ ?_
    refine v_getp rfl rfl rfl ?_
    refine v_load rfl rfl ⟨rfl, Nat.le_of_ble_eq_true rfl⟩ ?_
    refine v_ald9 rfl rfl ⟨by omega, by show i < (300 : Int); omega⟩ ?_
    rw [RX_at hX ⟨by omega, by omega⟩]
    refine v_callr rfl ⟨Nat.le_of_ble_eq_true rfl, Nat.le_of_ble_eq_true rfl, rfl, Nat.le_of_ble_eq_true rfl, rfl⟩ ?_
    refine R_isLetter ?_
    refine v_ifeq rfl (fun h => ?_) (fun h => ?_)
    · rw [b2i_0] at h
      exact fin i hi hi2 (by rw [he, skp_no (by rw [h]; decide)])
    · rw [b2i_0] at h
      refine v_load rfl rfl ⟨rfl, Nat.le_of_ble_eq_true rfl⟩ ?_
      refine v_push rfl ?_
      refine v_add rfl (by omega) ?_
      refine v_store rfl ⟨rfl, Nat.le_of_ble_eq_true rfl, Nat.le_of_ble_eq_true rfl, rfl⟩ rfl ?_
      refine v_goto rfl ?_
      exact ih (i + 1) (by omega) (by omega) (by omega) (by rw [he, skp_in (by omega) (by simpa using h)])
theorem R_wordFrom {fr : Int} (hX : RX t M) (hR : RR T M) (hT : T.length < 300) (h0 : 0 ≤ fr ∧ fr ≤ (t.length : Int)) (k : ∀ M' : zM, (∀ sg : Int, RR (T ++ [(0, fr, skp isLet t fr, skp isLet t fr, sg)]) M') → z_oS M M' → Q (some (0, skp isLet t fr)) M') : v_call L (d + 2) 183 [(2, 77), (0, fr)] M Q := by
  refine v_in ?_
  refine v_load rfl rfl ⟨rfl, Nat.le_of_ble_eq_true rfl⟩ ?_
  refine v_store rfl ⟨rfl, Nat.le_of_ble_eq_true rfl, Nat.le_of_ble_eq_true rfl, rfl⟩ rfl ?_
  exact R_word_loop hX hR hT h0.1 k _ fr rfl (by omega) h0.2 rfl
theorem R_num_loop (hX : RX t M) (hR : RR T M) (hT : T.length < 300) {fr : Int} (hfr : 0 ≤ fr) (k : ∀ M' : zM, (∀ sg : Int, RR (T ++ [(1, fr, skp isDig t fr, skp isDig t fr, sg)]) M') → z_oS M M' → Q (some (0, skp isDig t fr)) M') : ∀ (n : Nat) (i : Int), n = ((t.length : Int) - i).toNat → fr ≤ i → i ≤ (t.length : Int) → skp isDig t fr = skp isDig t i → v_wp L (d + 2) 184 2 [(2, 77), (0, fr), (0, i)] [] M Q := by
  have v1 := hX.1
  have v2 := hX.2.1
  have fin : ∀ i : Int, fr ≤ i → i ≤ (t.length : Int) → skp isDig t fr = i → v_wp L (d + 2) 184 29 [(2, 77), (0, fr), (0, i)] [] M Q := by
    intro i hi hi2 he
    refine v_load rfl rfl ⟨rfl, Nat.le_of_ble_eq_true rfl⟩ ?_
    refine v_push rfl ?_
    refine v_load rfl rfl ⟨rfl, Nat.le_of_ble_eq_true rfl⟩ ?_
    refine v_load rfl rfl ⟨rfl, Nat.le_of_ble_eq_true rfl⟩ ?_
    refine v_load rfl rfl ⟨rfl, Nat.le_of_ble_eq_true rfl⟩ ?_
    refine v_sub rfl (by omega) ?_
    refine v_load rfl rfl ⟨rfl, Nat.le_of_ble_eq_true rfl⟩ ?_
    refine v_callr rfl ⟨Nat.le_of_ble_eq_true rfl, Nat.le_of_ble_eq_true rfl, rfl, Nat.le_of_ble_eq_true rfl, rfl⟩ ?_
    refine R_tokenIs hR hT (fun M' hR' ho => ?_)
    refine v_load rfl rfl ⟨rfl, Nat.le_of_ble_eq_true rfl⟩ ?_
    refine v_ret rfl rfl ?_
    rw [show fr + (i - fr) = i by omega] at hR'
    rw [he] at k
    exact k M' hR' ho
  intro n
  induction n with
  | zero =>
    intro i hn hi hi2 he
    refine v_load rfl rfl ⟨rfl, Nat.le_of_ble_eq_true rfl⟩ ?_
    refine v_load rfl rfl ⟨rfl, Nat.le_of_ble_eq_true rfl⟩ ?_
    refine v_getx rfl rfl v1 ?_
    refine v_ige rfl (fun _ => fin i hi hi2 (by rw [he, skp_end (by omega)])) (fun h => absurd h (by omega))
  | succ n ih =>
    intro i hn hi hi2 he
    refine v_load rfl rfl ⟨rfl, Nat.le_of_ble_eq_true rfl⟩ ?_
    refine v_load rfl rfl ⟨rfl, Nat.le_of_ble_eq_true rfl⟩ ?_
    refine v_getx rfl rfl v1 ?_
    refine v_ige rfl (fun h => absurd h (by omega)) (fun _ => ?_)
    refine v_load rfl rfl ⟨rfl, Nat.le_of_ble_eq_true rfl⟩ ?_
    refine v_getp rfl rfl rfl ?_
    refine v_load rfl rfl ⟨rfl, Nat.le_of_ble_eq_true rfl⟩ ?_
    refine v_ald9 rfl rfl ⟨by omega, by show i < (300 : Int); omega⟩ ?_
    rw [RX_at hX ⟨by omega, by omega⟩]
    refine v_callr rfl ⟨Nat.le_of_ble_eq_true rfl, Nat.le_of_ble_eq_true rfl, rfl, Nat.le_of_ble_eq_true rfl, rfl⟩ ?_
    refine R_isDigit ?_
    refine v_ifeq rfl (fun h => ?_) (fun h => ?_)
    · rw [b2i_0] at h
      exact fin i hi hi2 (by rw [he, skp_no (by rw [h]; decide)])
    · rw [b2i_0] at h
      refine v_load rfl rfl ⟨rfl, Nat.le_of_ble_eq_true rfl⟩ ?_
      refine v_push rfl ?_
      refine v_add rfl (by omega) ?_
      refine v_store rfl ⟨rfl, Nat.le_of_ble_eq_true rfl, Nat.le_of_ble_eq_true rfl, rfl⟩ rfl ?_
      refine v_goto rfl ?_
      exact ih (i + 1) (by omega) (by omega) (by omega) (by rw [he, skp_in (by omega) (by simpa using h)])
theorem R_numberFrom {fr : Int} (hX : RX t M) (hR : RR T M) (hT : T.length < 300) (h0 : 0 ≤ fr ∧ fr ≤ (t.length : Int)) (k : ∀ M' : zM, (∀ sg : Int, RR (T ++ [(1, fr, skp isDig t fr, skp isDig t fr, sg)]) M') → z_oS M M' → Q (some (0, skp isDig t fr)) M') : v_call L (d + 2) 184 [(2, 77), (0, fr)] M Q := by
  refine v_in ?_
  refine v_load rfl rfl ⟨rfl, Nat.le_of_ble_eq_true rfl⟩ ?_
  refine v_store rfl ⟨rfl, Nat.le_of_ble_eq_true rfl, Nat.le_of_ble_eq_true rfl, rfl⟩ rfl ?_
  exact R_num_loop hX hR hT h0.1 k _ fr rfl (by omega) h0.2 rfl
end RK
