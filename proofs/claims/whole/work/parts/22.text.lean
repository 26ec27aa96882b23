/-! TEXTS: bytes of a list, runs of bytes -/
def tb (t : List Int) (i : Int) : Int := if 0 ≤ i ∧ i < (t.length : Int) then t.getD i.toNat 0 else -1
def skpF (p : Int → Bool) (t : List Int) : Nat → Int → Int
  | 0, i => i
  | f + 1, i => if i < (t.length : Int) ∧ p (tb t i) = true then skpF p t f (i + 1) else i
/-- the first place from i on whose byte p is not true of, or the end -/
def skp (p : Int → Bool) (t : List Int) (i : Int) : Int := skpF p t ((t.length : Int) - i).toNat i
theorem skp_eq (p : Int → Bool) (t : List Int) (i : Int) : skp p t i = if i < (t.length : Int) ∧ p (tb t i) = true then skp p t (i + 1) else i := by
  unfold skp
  by_cases h : i < (t.length : Int)
  · rw [show ((t.length : Int) - i).toNat = ((t.length : Int) - (i + 1)).toNat + 1 by omega]
    rfl
  · rw [show ((t.length : Int) - i).toNat = 0 by omega, if_neg (fun z => h z.1)]
    rfl
theorem skp_in {p : Int → Bool} {t : List Int} {i : Int} (h : i < (t.length : Int)) (hp : p (tb t i) = true) : skp p t i = skp p t (i + 1) := by rw [skp_eq, if_pos ⟨h, hp⟩]
theorem skp_end {p : Int → Bool} {t : List Int} {i : Int} (h : (t.length : Int) ≤ i) : skp p t i = i := by rw [skp_eq, if_neg (fun z => by omega)]
theorem skp_no {p : Int → Bool} {t : List Int} {i : Int} (hp : ¬ p (tb t i) = true) : skp p t i = i := by rw [skp_eq, if_neg (fun z => hp z.2)]
theorem skp_ge (p : Int → Bool) (t : List Int) : ∀ (n : Nat) (i : Int), n = ((t.length : Int) - i).toNat → i ≤ skp p t i ∧ (i ≤ (t.length : Int) → skp p t i ≤ (t.length : Int)) ∧ (∀ j, i ≤ j → j < skp p t i → p (tb t j) = true) ∧ (skp p t i < (t.length : Int) → ¬ p (tb t (skp p t i)) = true) := by
  intro n
  induction n with
  | zero =>
    intro i hn
    rw [skp_end (by omega)]
    exact ⟨Int.le_refl _, fun h => h, fun j h1 h2 => by omega, fun h => by omega⟩
  | succ n ih =>
    intro i hn
    by_cases hp : p (tb t i) = true
    · obtain ⟨a, b, c, d⟩ := ih (i + 1) (by omega)
      rw [skp_in (by omega) hp]
      refine ⟨by omega, fun _ => b (by omega), fun j h1 h2 => ?_, d⟩
      by_cases e : j = i
      · rw [e]; exact hp
      · exact c j (by omega) h2
    · rw [skp_no hp]
      exact ⟨Int.le_refl _, fun h => h, fun j h1 h2 => by omega, fun _ => hp⟩
theorem BV_tb {M : zM} {a : Int} {l : List Int} {s : Int} (h : BV M a l s) (i : Int) : z_at M a i = tb l i := by
  unfold tb
  split
  · rename_i h1
    have := BV_at h i.toNat (by omega)
    rw [show ((i.toNat : Nat) : Int) = i by omega] at this
    exact this
  · exact BV_out h (by omega)
theorem tb_app1 {l m : List Int} {i : Int} (h : i < (l.length : Int)) : tb (l ++ m) i = tb l i := by
  unfold tb
  by_cases h0 : 0 ≤ i
  · rw [if_pos ⟨h0, by simp; omega⟩, if_pos ⟨h0, h⟩, g_app1 (by omega)]
  · rw [if_neg (by omega), if_neg (by omega)]
def isLet (c : Int) : Bool := decide (97 ≤ c ∧ c ≤ 122)
def isDig (c : Int) : Bool := decide (48 ≤ c ∧ c ≤ 57)
def isMk (c : Int) : Bool := decide (c = 61 ∨ c = 40 ∨ c = 41 ∨ c = 123 ∨ c = 125 ∨ c = 59 ∨ c = 44 ∨ c = 43 ∨ c = 45 ∨ c = 42 ∨ c = 47)
def b2i (b : Bool) : Int := if b then 1 else 0
def notC (x : Int) (c : Int) : Bool := decide (¬ c = x)
/-- how many bytes 10 are ahead of a place -/
def nlF (t : List Int) : Nat → Int
  | 0 => 0
  | n + 1 => nlF t n + (if tb t (n : Int) = 10 then 1 else 0)
theorem nlF_nn (t : List Int) : ∀ n, 0 ≤ nlF t n ∧ nlF t n ≤ (n : Int)
  | 0 => ⟨Int.le_refl _, Int.le_refl _⟩
  | n + 1 => by
    have := nlF_nn t n
    unfold nlF
    split <;> omega
section TX
variable {L d : Nat} {M : zM} {Q : Option zV → zM → Prop} {a : Int} {t : List Int} {s : Int}
theorem S_atT {i : Int} (hB : z_isB a) (hV : BV M a t s) (k : Q (some (0, tb t i)) M) : v_call L d 2 [(2, a), (0, i)] M Q := S_at hB (by rw [BV_tb hV]; exact k)
theorem S_sizeT (hB : z_isB a) (hV : BV M a t s) (k : Q (some (0, (t.length : Int))) M) : v_call L d 1 [(2, a)] M Q := S_size hB (by rw [hV.1]; exact k)
theorem S_lineEnd_loop (hB : z_isB a) (hV : BV M a t s) {fr : Int} : ∀ (n : Nat) (i : Int), n = ((t.length : Int) - i).toNat → 0 ≤ i → i ≤ (t.length : Int) → Q (some (0, skp (notC 10) t i)) M → v_wp L (d + 1) 11 2 [(2, a), (0, fr), (0, i)] [] M Q := by
  obtain ⟨h0, h1, p0, p1, p2, hp⟩ := z_B (L := L) hB
  have hk : ((z_sC L a).1 : Int) = 0 := by rw [h0]; rfl
  have v1 := hV.1
  have v2 := hV.2.1
  intro n
  induction n with
  | zero =>
    intro i hn hi hi2 k
    rw [skp_end (by omega)] at k
    repeat' (first
      | refine v_geti rfl hk ?_
      | exact k
      | (exfalso; omega)
      | refine v_load rfl rfl ⟨rfl, Nat.le_of_ble_eq_true rfl⟩ ?_
      | refine v_getp rfl rfl rfl ?_
      | refine v_geti rfl rfl ?_
      | refine v_push rfl ?_
      | refine v_goto rfl ?_
      | refine v_ret rfl rfl ?_
      | refine v_store rfl ⟨rfl, Nat.le_of_ble_eq_true rfl, Nat.le_of_ble_eq_true rfl, rfl⟩ rfl ?_
      | refine v_iinc rfl rfl rfl (by omega) rfl ?_
      | refine v_add rfl (by omega) ?_
      | refine v_sub rfl (by omega) ?_
      | refine v_ige rfl (fun _ => ?_) (fun _ => ?_)
      | refine v_ine rfl (fun _ => ?_) (fun _ => ?_)
      | refine v_ifeq rfl (fun _ => ?_) (fun _ => ?_)
      | refine v_ifne rfl (fun _ => ?_) (fun _ => ?_)
      | refine v_ieq rfl (fun _ => ?_) (fun _ => ?_)
      | refine v_iflt rfl (fun _ => ?_) (fun _ => ?_)
      | refine v_ile rfl (fun _ => ?_) (fun _ => ?_)
      | refine v_ilt rfl (fun _ => ?_) (fun _ => ?_)
      | refine v_igt rfl (fun _ => ?_) (fun _ => ?_)
      | refine v_ifle rfl (fun _ => ?_) (fun _ => ?_)
      | refine v_ifge rfl (fun _ => ?_) (fun _ => ?_)
      | refine v_ifgt rfl (fun _ => ?_) (fun _ => ?_)
      | refine v_ald9 rfl rfl (by refine ⟨?_, ?_⟩ <;> first | omega | (show _ < (300 : Int); omega) | (show _ < (1216 : Int); omega) | (show _ < (1600 : Int); omega) | (show _ < (301 : Int); omega) | (show _ < (18 : Int); omega) | (show _ < (100 : Int); omega) | (show _ < (20 : Int); omega) | (show _ < (13 : Int); omega) | (show _ < (3612 : Int); omega)) ?_
      | refine v_ast9 rfl rfl (by decide) (by refine ⟨?_, ?_⟩ <;> first | omega | (show _ < (300 : Int); omega) | (show _ < (1216 : Int); omega) | (show _ < (1600 : Int); omega) | (show _ < (301 : Int); omega) | (show _ < (18 : Int); omega) | (show _ < (100 : Int); omega) | (show _ < (20 : Int); omega) | (show _ < (13 : Int); omega) | (show _ < (3612 : Int); omega)) ?_
      | refine v_puti rfl rfl rfl ?_
      | refine v_len rfl ⟨Nat.le_of_ble_eq_true rfl, Nat.le_of_ble_eq_true rfl⟩ rfl ?_
      | refine v_getz rfl rfl ?_
      | refine v_getl rfl rfl ?_
      | refine v_dup rfl (Or.inl rfl) ?_
      | refine v_dup rfl (Or.inr rfl) ?_
      | refine v_pop rfl (Or.inl rfl) ?_
      | refine v_callr rfl ⟨Nat.le_of_ble_eq_true rfl, Nat.le_of_ble_eq_true rfl, rfl, Nat.le_of_ble_eq_true rfl, rfl⟩ ?_)
  | succ n ih =>
    intro i hn hi hi2 k
    refine v_load rfl rfl ⟨rfl, Nat.le_of_ble_eq_true rfl⟩ ?_
    refine v_load rfl rfl ⟨rfl, Nat.le_of_ble_eq_true rfl⟩ ?_
    refine v_geti rfl hk ?_
    refine v_ige rfl (fun h => absurd h (by omega)) (fun _ => ?_)
    refine v_load rfl rfl ⟨rfl, Nat.le_of_ble_eq_true rfl⟩ ?_
    refine v_load rfl rfl ⟨rfl, Nat.le_of_ble_eq_true rfl⟩ ?_
    refine v_callr rfl ⟨Nat.le_of_ble_eq_true rfl, Nat.le_of_ble_eq_true rfl, z_rB hB, Nat.le_of_ble_eq_true rfl, rfl⟩ ?_
    refine S_atT hB hV ?_
    refine v_push rfl ?_
    refine v_ieq rfl (fun h => ?_) (fun h => ?_)
    · rw [skp_no (by simp [notC, h])] at k
      repeat' (first
        | exact k
        | refine v_load rfl rfl ⟨rfl, Nat.le_of_ble_eq_true rfl⟩ ?_
        | refine v_getp rfl rfl rfl ?_
        | refine v_geti rfl rfl ?_
        | refine v_push rfl ?_
        | refine v_goto rfl ?_
        | refine v_ret rfl rfl ?_
        | refine v_store rfl ⟨rfl, Nat.le_of_ble_eq_true rfl, Nat.le_of_ble_eq_true rfl, rfl⟩ rfl ?_
        | refine v_iinc rfl rfl rfl (by omega) rfl ?_
        | refine v_add rfl (by omega) ?_
        | refine v_sub rfl (by omega) ?_
        | refine v_ige rfl (fun _ => ?_) (fun _ => ?_)
        | refine v_ine rfl (fun _ => ?_) (fun _ => ?_)
        | refine v_ifeq rfl (fun _ => ?_) (fun _ => ?_)
        | refine v_ifne rfl (fun _ => ?_) (fun _ => ?_)
        | refine v_ieq rfl (fun _ => ?_) (fun _ => ?_)
        | refine v_iflt rfl (fun _ => ?_) (fun _ => ?_)
        | refine v_ile rfl (fun _ => ?_) (fun _ => ?_)
        | refine v_ilt rfl (fun _ => ?_) (fun _ => ?_)
        | refine v_igt rfl (fun _ => ?_) (fun _ => ?_)
        | refine v_ifle rfl (fun _ => ?_) (fun _ => ?_)
        | refine v_ifge rfl (fun _ => ?_) (fun _ => ?_)
        | refine v_ifgt rfl (fun _ => ?_) (fun _ => ?_)
        | refine v_ald9 rfl rfl (by refine ⟨?_, ?_⟩ <;> first | omega | (show _ < (300 : Int); omega) | (show _ < (1216 : Int); omega) | (show _ < (1600 : Int); omega) | (show _ < (301 : Int); omega) | (show _ < (18 : Int); omega) | (show _ < (100 : Int); omega) | (show _ < (20 : Int); omega) | (show _ < (13 : Int); omega) | (show _ < (3612 : Int); omega)) ?_
        | refine v_ast9 rfl rfl (by decide) (by refine ⟨?_, ?_⟩ <;> first | omega | (show _ < (300 : Int); omega) | (show _ < (1216 : Int); omega) | (show _ < (1600 : Int); omega) | (show _ < (301 : Int); omega) | (show _ < (18 : Int); omega) | (show _ < (100 : Int); omega) | (show _ < (20 : Int); omega) | (show _ < (13 : Int); omega) | (show _ < (3612 : Int); omega)) ?_
        | refine v_puti rfl rfl rfl ?_
        | refine v_len rfl ⟨Nat.le_of_ble_eq_true rfl, Nat.le_of_ble_eq_true rfl⟩ rfl ?_
        | refine v_getz rfl rfl ?_
        | refine v_getl rfl rfl ?_
        | refine v_dup rfl (Or.inl rfl) ?_
        | refine v_dup rfl (Or.inr rfl) ?_
        | refine v_pop rfl (Or.inl rfl) ?_
        | refine v_callr rfl ⟨Nat.le_of_ble_eq_true rfl, Nat.le_of_ble_eq_true rfl, rfl, Nat.le_of_ble_eq_true rfl, rfl⟩ ?_)
    · rw [skp_in (by omega) (by simp [notC, h])] at k
      refine v_iinc rfl rfl rfl (by omega) rfl ?_
      refine v_goto rfl ?_
      exact ih (i + 1) (by omega) (by omega) (by omega) k
theorem S_lineEnd {fr : Int} (hB : z_isB a) (hV : BV M a t s) (h0 : 0 ≤ fr ∧ fr ≤ (t.length : Int)) (k : Q (some (0, skp (notC 10) t fr)) M) : v_call L (d + 1) 11 [(2, a), (0, fr)] M Q := by
  refine v_in ?_
  refine v_load rfl rfl ⟨rfl, Nat.le_of_ble_eq_true rfl⟩ ?_
  refine v_store rfl ⟨rfl, Nat.le_of_ble_eq_true rfl, Nat.le_of_ble_eq_true rfl, rfl⟩ rfl ?_
  exact S_lineEnd_loop hB hV _ fr rfl h0.1 h0.2 k
theorem S_isLetter {c : Int} (k : Q (some (0, b2i (isLet c))) M) : v_call L d 78 [(0, c)] M Q := by
  refine v_in ?_
  unfold isLet b2i at k
  repeat' (first
    | refine v_load rfl rfl ⟨rfl, Nat.le_of_ble_eq_true rfl⟩ ?_
    | refine v_getp rfl rfl rfl ?_
    | refine v_geti rfl rfl ?_
    | refine v_push rfl ?_
    | refine v_goto rfl ?_
    | refine v_ret rfl rfl ?_
    | refine v_store rfl ⟨rfl, Nat.le_of_ble_eq_true rfl, Nat.le_of_ble_eq_true rfl, rfl⟩ rfl ?_
    | refine v_iinc rfl rfl rfl (by omega) rfl ?_
    | refine v_add rfl (by omega) ?_
    | refine v_sub rfl (by omega) ?_
    | refine v_ige rfl (fun _ => ?_) (fun _ => ?_)
    | refine v_ine rfl (fun _ => ?_) (fun _ => ?_)
    | refine v_ifeq rfl (fun _ => ?_) (fun _ => ?_)
    | refine v_ifne rfl (fun _ => ?_) (fun _ => ?_)
    | refine v_ieq rfl (fun _ => ?_) (fun _ => ?_)
    | refine v_iflt rfl (fun _ => ?_) (fun _ => ?_)
    | refine v_ile rfl (fun _ => ?_) (fun _ => ?_)
    | refine v_ilt rfl (fun _ => ?_) (fun _ => ?_)
    | refine v_igt rfl (fun _ => ?_) (fun _ => ?_)
    | refine v_ifle rfl (fun _ => ?_) (fun _ => ?_)
    | refine v_ifge rfl (fun _ => ?_) (fun _ => ?_)
    | refine v_ifgt rfl (fun _ => ?_) (fun _ => ?_)
    | refine v_ald9 rfl rfl (by refine ⟨?_, ?_⟩ <;> first | omega | (show _ < (300 : Int); omega) | (show _ < (1216 : Int); omega) | (show _ < (1600 : Int); omega) | (show _ < (301 : Int); omega) | (show _ < (18 : Int); omega) | (show _ < (100 : Int); omega) | (show _ < (20 : Int); omega) | (show _ < (13 : Int); omega) | (show _ < (3612 : Int); omega)) ?_
    | refine v_ast9 rfl rfl (by decide) (by refine ⟨?_, ?_⟩ <;> first | omega | (show _ < (300 : Int); omega) | (show _ < (1216 : Int); omega) | (show _ < (1600 : Int); omega) | (show _ < (301 : Int); omega) | (show _ < (18 : Int); omega) | (show _ < (100 : Int); omega) | (show _ < (20 : Int); omega) | (show _ < (13 : Int); omega) | (show _ < (3612 : Int); omega)) ?_
    | refine v_puti rfl rfl rfl ?_
    | refine v_len rfl ⟨Nat.le_of_ble_eq_true rfl, Nat.le_of_ble_eq_true rfl⟩ rfl ?_
    | refine v_getz rfl rfl ?_
    | refine v_getl rfl rfl ?_
    | refine v_dup rfl (Or.inl rfl) ?_
    | refine v_dup rfl (Or.inr rfl) ?_
    | refine v_pop rfl (Or.inl rfl) ?_
    | refine v_callr rfl ⟨Nat.le_of_ble_eq_true rfl, Nat.le_of_ble_eq_true rfl, rfl, Nat.le_of_ble_eq_true rfl, rfl⟩ ?_)
  all_goals first
    | (rw [if_pos (decide_eq_true (by omega))] at k; exact k)
    | (rw [if_neg (by simp; omega)] at k; exact k)
theorem S_isDigit {c : Int} (k : Q (some (0, b2i (isDig c))) M) : v_call L d 79 [(0, c)] M Q := by
  refine v_in ?_
  unfold isDig b2i at k
  repeat' (first
    | refine v_load rfl rfl ⟨rfl, Nat.le_of_ble_eq_true rfl⟩ ?_
    | refine v_getp rfl rfl rfl ?_
    | refine v_geti rfl rfl ?_
    | refine v_push rfl ?_
    | refine v_goto rfl ?_
    | refine v_ret rfl rfl ?_
    | refine v_store rfl ⟨rfl, Nat.le_of_ble_eq_true rfl, Nat.le_of_ble_eq_true rfl, rfl⟩ rfl ?_
    | refine v_iinc rfl rfl rfl (by omega) rfl ?_
    | refine v_add rfl (by omega) ?_
    | refine v_sub rfl (by omega) ?_
    | refine v_ige rfl (fun _ => ?_) (fun _ => ?_)
    | refine v_ine rfl (fun _ => ?_) (fun _ => ?_)
    | refine v_ifeq rfl (fun _ => ?_) (fun _ => ?_)
    | refine v_ifne rfl (fun _ => ?_) (fun _ => ?_)
    | refine v_ieq rfl (fun _ => ?_) (fun _ => ?_)
    | refine v_iflt rfl (fun _ => ?_) (fun _ => ?_)
    | refine v_ile rfl (fun _ => ?_) (fun _ => ?_)
    | refine v_ilt rfl (fun _ => ?_) (fun _ => ?_)
    | refine v_igt rfl (fun _ => ?_) (fun _ => ?_)
    | refine v_ifle rfl (fun _ => ?_) (fun _ => ?_)
    | refine v_ifge rfl (fun _ => ?_) (fun _ => ?_)
    | refine v_ifgt rfl (fun _ => ?_) (fun _ => ?_)
    | refine v_ald9 rfl rfl (by refine ⟨?_, ?_⟩ <;> first | omega | (show _ < (300 : Int); omega) | (show _ < (1216 : Int); omega) | (show _ < (1600 : Int); omega) | (show _ < (301 : Int); omega) | (show _ < (18 : Int); omega) | (show _ < (100 : Int); omega) | (show _ < (20 : Int); omega) | (show _ < (13 : Int); omega) | (show _ < (3612 : Int); omega)) ?_
    | refine v_ast9 rfl rfl (by decide) (by refine ⟨?_, ?_⟩ <;> first | omega | (show _ < (300 : Int); omega) | (show _ < (1216 : Int); omega) | (show _ < (1600 : Int); omega) | (show _ < (301 : Int); omega) | (show _ < (18 : Int); omega) | (show _ < (100 : Int); omega) | (show _ < (20 : Int); omega) | (show _ < (13 : Int); omega) | (show _ < (3612 : Int); omega)) ?_
    | refine v_puti rfl rfl rfl ?_
    | refine v_len rfl ⟨Nat.le_of_ble_eq_true rfl, Nat.le_of_ble_eq_true rfl⟩ rfl ?_
    | refine v_getz rfl rfl ?_
    | refine v_getl rfl rfl ?_
    | refine v_dup rfl (Or.inl rfl) ?_
    | refine v_dup rfl (Or.inr rfl) ?_
    | refine v_pop rfl (Or.inl rfl) ?_
    | refine v_callr rfl ⟨Nat.le_of_ble_eq_true rfl, Nat.le_of_ble_eq_true rfl, rfl, Nat.le_of_ble_eq_true rfl, rfl⟩ ?_)
  all_goals first
    | (rw [if_pos (decide_eq_true (by omega))] at k; exact k)
    | (rw [if_neg (by simp; omega)] at k; exact k)
end TX
