/-! THE REFERENCE NUMBERS its nodes: methods 216 to 218 -/
def tkF (q : zQ) : Int := if isLf q.1 = true then q.2.2.2.2.2.1 else -1
def tkM (q : zQ) : Int := if isLf q.1 = true then 1 else 0
def sgF (q : zQ) : Int := if q.1 = 17 then q.2.2.2.2.2.2.2 else 0
def nxC (q : zQ) : Prop := q.1 = 17 ∨ q.1 = 4 ∨ q.1 = 0
/-- nodes as they are taken -/
def RA0 (N : List zQ) (M : zM) : Prop := M 77 44 = (N.length : Int) ∧ N.length ≤ 1216 ∧ ∀ i : Nat, i < N.length → M 100 (i : Int) = (N.getD i n0).1 ∧ M 101 (i : Int) = (N.getD i n0).2.1 ∧ M 102 (i : Int) = (N.getD i n0).2.2.2.2.1 ∧ M 103 (i : Int) = 0 ∧ M 104 (i : Int) = -1 ∧ M 105 (i : Int) = tkF (N.getD i n0) ∧ M 106 (i : Int) = tkM (N.getD i n0) ∧ M 107 (i : Int) = 1 ∧ M 108 (i : Int) = sgF (N.getD i n0) ∧ (nxC (N.getD i n0) → M 109 (i : Int) = (N.getD i n0).2.2.2.2.2.1)
/-- the last leaf of a token among the first nodes, by its sort -/
def lfG (N : List zQ) : Nat → Int → Int → Int
  | 0, v, _ => v
  | n + 1, v, j => if isLf (N.getD n n0).1 = true ∧ (N.getD n n0).2.2.2.2.2.1 = j then (n : Int) else lfG N n v j
theorem lfG_app (N S : List zQ) : ∀ (n : Nat) (v j : Int), n ≤ N.length → lfG (N ++ S) n v j = lfG N n v j
  | 0, _, _, _ => rfl
  | n + 1, v, j, h => by
    unfold lfG
    rw [qd_app1 (by omega), lfG_app N S n v j (by omega)]
def tkC (M : zM) (x n so pl dp tk tm sg nx : Int) : zM := z_upd (z_upd (z_upd (z_upd (z_upd (z_upd (z_upd (z_upd (z_upd (z_upd (z_upd M 110 x n) 100 n so) 101 n pl) 102 n dp) 103 n 0) 104 n (-1)) 105 n tk) 106 n tm) 107 n 1) 108 n sg) 109 n nx
/-- nodes, their numbers and leaves alone have changed -/
def LQr (M M' : zM) : Prop := ∀ b j, ¬ (100 ≤ b ∧ b ≤ 111) → (b = 77 → j ≠ 44) → M' b j = M b j
theorem LQr_rf {M : zM} : LQr M M := fun _ _ _ _ => rfl
theorem LQr_tr {M M1 M2 : zM} (h : LQr M M1) (h2 : LQr M1 M2) : LQr M M2 := fun b j h3 h4 => (h2 b j h3 h4).trans (h b j h3 h4)
section RNU
variable {L d : Nat} {M : zM} {Q : Option zV → zM → Prop} {N : List zQ}
theorem R_takes {x p pl : Int} {q : zQ} (hR : RA0 N M) (hl : N.length < 1216) (hx : 0 ≤ x ∧ x < 1600) (e85 : M 85 x = q.1) (e86 : M 86 x = tkF q) (e87 : M 87 x = sgF q) (e88 : nxC q → M 88 x = q.2.2.2.2.2.1) (e92 : M 92 x = p) (hpp : q.2.1 = pl) (hp : (p = -1 ∧ pl = -1 ∧ q.2.2.2.2.1 = 1) ∨ (0 ≤ p ∧ p < 1600 ∧ p ≠ x ∧ M 110 p = pl ∧ 0 ≤ pl ∧ pl < (N.length : Int) ∧ (N.getD pl.toNat n0).2.2.2.2.1 = q.2.2.2.2.1 - 1 ∧ 0 ≤ q.2.2.2.2.1 ∧ q.2.2.2.2.1 ≤ 5000)) (htk : isLf q.1 = true → 0 ≤ q.2.2.2.2.2.1 ∧ q.2.2.2.2.2.1 < 300)
    (k : ∀ M', RA0 (N ++ [q]) M' → M' 110 x = (N.length : Int) → (∀ j, j ≠ x → M' 110 j = M 110 j) → (∀ j, M' 111 j = if isLf q.1 = true ∧ q.2.2.2.2.2.1 = j then (N.length : Int) else M 111 j) → LQr M M' → Q none M') : v_call L d 216 [(2, 77), (0, x)] M Q := by
  obtain ⟨h1, h2, h3⟩ := hR
  have fin : ∀ M', (∀ b j, 100 ≤ b → b ≤ 109 → j ≠ (N.length : Int) → M' b j = M b j) → M' 77 44 = (N.length : Int) + 1 → M' 100 (N.length : Int) = q.1 → M' 101 (N.length : Int) = pl → M' 102 (N.length : Int) = q.2.2.2.2.1 → M' 103 (N.length : Int) = 0 → M' 104 (N.length : Int) = -1 → M' 105 (N.length : Int) = tkF q → M' 106 (N.length : Int) = tkM q → M' 107 (N.length : Int) = 1 → M' 108 (N.length : Int) = sgF q → M' 109 (N.length : Int) = M 88 x → RA0 (N ++ [q]) M' := by
    intro M' g0 g1 g2 g3 g4 g5 g6 g7 g8 g9 g10 g11
    have hll : (N ++ [q]).length = N.length + 1 := by simp
    refine ⟨by rw [g1, hll]; omega, by omega, fun i hi => ?_⟩
    by_cases e : i = N.length
    · subst e
      rw [show (N ++ [q]).getD N.length n0 = q by rw [qd_app2 (Nat.le_refl _), Nat.sub_self]; rfl, hpp]
      exact ⟨g2, g3, g4, g5, g6, g7, g8, g9, g10, fun z => g11.trans (e88 z)⟩
    · have hi' : i < N.length := by omega
      rw [qd_app1 hi', g0 100 _ (by decide) (by decide) (by omega), g0 101 _ (by decide) (by decide) (by omega), g0 102 _ (by decide) (by decide) (by omega), g0 103 _ (by decide) (by decide) (by omega), g0 104 _ (by decide) (by decide) (by omega), g0 105 _ (by decide) (by decide) (by omega), g0 106 _ (by decide) (by decide) (by omega), g0 107 _ (by decide) (by decide) (by omega), g0 108 _ (by decide) (by decide) (by omega), g0 109 _ (by decide) (by decide) (by omega)]
      exact h3 i hi'
  have end1 : isLf q.1 = false → Q none (z_upd (tkC M x (N.length : Int) q.1 pl q.2.2.2.2.1 (tkF q) 0 (sgF q) (M 88 x)) 77 44 ((N.length : Int) + 1)) := by
    intro hlf
    have htm : tkM q = 0 := by unfold tkM; rw [hlf]; rfl
    refine k _ (fin _ ?_ u_eq ?_ ?_ ?_ ?_ ?_ ?_ ?_ ?_ ?_ ?_) ?_ ?_ ?_ ?_
    · intro b j b1 b2 hj
      unfold tkC
      simp only [z_upd]
      repeat' rw [if_neg (by omega)]
    all_goals unfold tkC
    all_goals try (simp (disch := decide) only [u_n1, u_eq, htm]; done)
    · intro j hj
      simp (disch := first | decide | assumption) only [u_n1, u_n2]
    · intro j
      rw [hlf]
      simp (disch := decide) only [u_n1]
      simp
    · intro b j hb hj
      have hj' : ¬ (b = 77 ∧ j = 44) := fun z => hj z.1 z.2
      simp only [z_upd]
      repeat' rw [if_neg (by omega)]
  have end2 : isLf q.1 = true → Q none (z_upd (z_upd (tkC M x (N.length : Int) q.1 pl q.2.2.2.2.1 (tkF q) 1 (sgF q) (M 88 x)) 111 (tkF q) (N.length : Int)) 77 44 ((N.length : Int) + 1)) := by
    intro hlf
    have htm : tkM q = 1 := by unfold tkM; rw [hlf]; rfl
    have htf : tkF q = q.2.2.2.2.2.1 := by unfold tkF; rw [hlf]; rfl
    refine k _ (fin _ ?_ u_eq ?_ ?_ ?_ ?_ ?_ ?_ ?_ ?_ ?_ ?_) ?_ ?_ ?_ ?_
    · intro b j b1 b2 hj
      unfold tkC
      simp only [z_upd]
      repeat' rw [if_neg (by omega)]
    all_goals unfold tkC
    all_goals try (simp (disch := decide) only [u_n1, u_eq, htm]; done)
    · intro j hj
      simp (disch := first | decide | assumption) only [u_n1, u_n2]
    · intro j
      rw [u_n1 (by decide), hlf, htf]
      by_cases e : q.2.2.2.2.2.1 = j
      · rw [if_pos ⟨rfl, e⟩, e, u_eq]
      · rw [if_neg (fun z => e z.2), u_n2 (fun z => e z.symm)]
        simp (disch := decide) only [u_n1]
    · intro b j hb hj
      have hj' : ¬ (b = 77 ∧ j = 44) := fun z => hj z.1 z.2
      simp only [z_upd]
      repeat' rw [if_neg (by omega)]
  -- the walk from the depth on
  refine v_in ?_
  have mid : ∀ dp : Int, dp = q.2.2.2.2.1 → v_wp L d 216 79 [(2, 77), (0, x), (0, (N.length : Int)), (0, pl)] [(0, dp), (0, (N.length : Int)), (2, 102)] (z_upd (z_upd (z_upd M 110 x (N.length : Int)) 100 (N.length : Int) q.1) 101 (N.length : Int) pl) Q := by
    intro dp edp
    subst edp
    by_cases hlf : isLf q.1 = true
    · have htf : tkF q = q.2.2.2.2.2.1 := by unfold tkF; rw [hlf]; rfl
      have := htk hlf
      refine v_ast9 rfl rfl (by decide) ⟨by omega, by show _ < (1600 : Int); omega⟩ ?_
      refine v_load rfl rfl ⟨rfl, Nat.le_of_ble_eq_true rfl⟩ ?_
      refine v_getp rfl rfl rfl ?_
      refine v_load rfl rfl ⟨rfl, Nat.le_of_ble_eq_true rfl⟩ ?_
      refine v_push rfl ?_
      refine v_ast9 rfl rfl (by decide) ⟨by omega, by show _ < (1600 : Int); omega⟩ ?_
      refine v_load rfl rfl ⟨rfl, Nat.le_of_ble_eq_true rfl⟩ ?_
      refine v_getp rfl rfl rfl ?_
      refine v_load rfl rfl ⟨rfl, Nat.le_of_ble_eq_true rfl⟩ ?_
      refine v_push rfl ?_
      refine v_ast9 rfl rfl (by decide) ⟨by omega, by show _ < (1600 : Int); omega⟩ ?_
      refine v_load rfl rfl ⟨rfl, Nat.le_of_ble_eq_true rfl⟩ ?_
      refine v_getp rfl rfl rfl ?_
      refine v_load rfl rfl ⟨rfl, Nat.le_of_ble_eq_true rfl⟩ ?_
      refine v_load rfl rfl ⟨rfl, Nat.le_of_ble_eq_true rfl⟩ ?_
      refine v_getp rfl rfl rfl ?_
      refine v_load rfl rfl ⟨rfl, Nat.le_of_ble_eq_true rfl⟩ ?_
      refine v_ald9 rfl rfl ⟨by omega, by show _ < (1600 : Int); omega⟩ ?_
      simp (disch := decide) only [u_n1]; rw [e86]
      refine v_ast9 rfl rfl (by decide) ⟨by omega, by show _ < (1600 : Int); omega⟩ ?_
      refine v_load rfl rfl ⟨rfl, Nat.le_of_ble_eq_true rfl⟩ ?_
      refine v_getp rfl rfl rfl ?_
      refine v_load rfl rfl ⟨rfl, Nat.le_of_ble_eq_true rfl⟩ ?_
      refine v_load rfl rfl ⟨rfl, Nat.le_of_ble_eq_true rfl⟩ ?_
      refine v_getp rfl rfl rfl ?_
      refine v_load rfl rfl ⟨rfl, Nat.le_of_ble_eq_true rfl⟩ ?_
      refine v_ald9 rfl rfl ⟨by omega, by show _ < (1600 : Int); omega⟩ ?_
      simp (disch := decide) only [u_n1]; rw [e86]
      refine v_push rfl ?_
      refine v_ine rfl (fun _ => ?_) (fun h => absurd h (by omega))
      refine v_push rfl ?_
      refine v_ast9 rfl rfl (by decide) ⟨by omega, by show _ < (1600 : Int); omega⟩ ?_
      refine v_load rfl rfl ⟨rfl, Nat.le_of_ble_eq_true rfl⟩ ?_
      refine v_getp rfl rfl rfl ?_
      refine v_load rfl rfl ⟨rfl, Nat.le_of_ble_eq_true rfl⟩ ?_
      refine v_push rfl ?_
      refine v_ast9 rfl rfl (by decide) ⟨by omega, by show _ < (1600 : Int); omega⟩ ?_
      refine v_load rfl rfl ⟨rfl, Nat.le_of_ble_eq_true rfl⟩ ?_
      refine v_getp rfl rfl rfl ?_
      refine v_load rfl rfl ⟨rfl, Nat.le_of_ble_eq_true rfl⟩ ?_
      refine v_load rfl rfl ⟨rfl, Nat.le_of_ble_eq_true rfl⟩ ?_
      refine v_getp rfl rfl rfl ?_
      refine v_load rfl rfl ⟨rfl, Nat.le_of_ble_eq_true rfl⟩ ?_
      refine v_ald9 rfl rfl ⟨by omega, by show _ < (1600 : Int); omega⟩ ?_
      simp (disch := decide) only [u_n1]; rw [e87]
      refine v_ast9 rfl rfl (by decide) ⟨by omega, by show _ < (1600 : Int); omega⟩ ?_
      refine v_load rfl rfl ⟨rfl, Nat.le_of_ble_eq_true rfl⟩ ?_
      refine v_getp rfl rfl rfl ?_
      refine v_load rfl rfl ⟨rfl, Nat.le_of_ble_eq_true rfl⟩ ?_
      refine v_load rfl rfl ⟨rfl, Nat.le_of_ble_eq_true rfl⟩ ?_
      refine v_getp rfl rfl rfl ?_
      refine v_load rfl rfl ⟨rfl, Nat.le_of_ble_eq_true rfl⟩ ?_
      refine v_ald9 rfl rfl ⟨by omega, by show _ < (1600 : Int); omega⟩ ?_
      simp (disch := decide) only [u_n1]
      refine v_ast9 rfl rfl (by decide) ⟨by omega, by show _ < (1600 : Int); omega⟩ ?_
      refine v_load rfl rfl ⟨rfl, Nat.le_of_ble_eq_true rfl⟩ ?_
      refine v_getp rfl rfl rfl ?_
      refine v_load rfl rfl ⟨rfl, Nat.le_of_ble_eq_true rfl⟩ ?_
      refine v_ald9 rfl rfl ⟨by omega, by show _ < (1600 : Int); omega⟩ ?_
      simp (disch := decide) only [u_n1]; rw [e86]
      refine v_push rfl ?_
      refine v_ieq rfl (fun h => absurd h (by omega)) (fun _ => ?_)
      refine v_load rfl rfl ⟨rfl, Nat.le_of_ble_eq_true rfl⟩ ?_
      refine v_getp rfl rfl rfl ?_
      refine v_load rfl rfl ⟨rfl, Nat.le_of_ble_eq_true rfl⟩ ?_
      refine v_getp rfl rfl rfl ?_
      refine v_load rfl rfl ⟨rfl, Nat.le_of_ble_eq_true rfl⟩ ?_
      refine v_ald9 rfl rfl ⟨by omega, by show _ < (1600 : Int); omega⟩ ?_
      simp (disch := decide) only [u_n1]; rw [e86]
      refine v_load rfl rfl ⟨rfl, Nat.le_of_ble_eq_true rfl⟩ ?_
      refine v_ast9 rfl rfl (by decide) ⟨by omega, by show _ < (300 : Int); omega⟩ ?_
      refine v_load rfl rfl ⟨rfl, Nat.le_of_ble_eq_true rfl⟩ ?_
      refine v_load rfl rfl ⟨rfl, Nat.le_of_ble_eq_true rfl⟩ ?_
      refine v_getx rfl rfl (show _ = (N.length : Int) by simp (disch := decide) only [u_n1]; exact h1) ?_
      refine v_push rfl ?_
      refine v_add rfl (by omega) ?_
      refine v_puti rfl rfl rfl ?_
      refine v_ret rfl rfl ?_
      exact end2 hlf
    · have hlf : isLf q.1 = false := by simpa using hlf
      have htf : tkF q = -1 := by unfold tkF; rw [hlf]; rfl
      refine v_ast9 rfl rfl (by decide) ⟨by omega, by show _ < (1600 : Int); omega⟩ ?_
      refine v_load rfl rfl ⟨rfl, Nat.le_of_ble_eq_true rfl⟩ ?_
      refine v_getp rfl rfl rfl ?_
      refine v_load rfl rfl ⟨rfl, Nat.le_of_ble_eq_true rfl⟩ ?_
      refine v_push rfl ?_
      refine v_ast9 rfl rfl (by decide) ⟨by omega, by show _ < (1600 : Int); omega⟩ ?_
      refine v_load rfl rfl ⟨rfl, Nat.le_of_ble_eq_true rfl⟩ ?_
      refine v_getp rfl rfl rfl ?_
      refine v_load rfl rfl ⟨rfl, Nat.le_of_ble_eq_true rfl⟩ ?_
      refine v_push rfl ?_
      refine v_ast9 rfl rfl (by decide) ⟨by omega, by show _ < (1600 : Int); omega⟩ ?_
      refine v_load rfl rfl ⟨rfl, Nat.le_of_ble_eq_true rfl⟩ ?_
      refine v_getp rfl rfl rfl ?_
      refine v_load rfl rfl ⟨rfl, Nat.le_of_ble_eq_true rfl⟩ ?_
      refine v_load rfl rfl ⟨rfl, Nat.le_of_ble_eq_true rfl⟩ ?_
      refine v_getp rfl rfl rfl ?_
      refine v_load rfl rfl ⟨rfl, Nat.le_of_ble_eq_true rfl⟩ ?_
      refine v_ald9 rfl rfl ⟨by omega, by show _ < (1600 : Int); omega⟩ ?_
      simp (disch := decide) only [u_n1]; rw [e86]
      refine v_ast9 rfl rfl (by decide) ⟨by omega, by show _ < (1600 : Int); omega⟩ ?_
      refine v_load rfl rfl ⟨rfl, Nat.le_of_ble_eq_true rfl⟩ ?_
      refine v_getp rfl rfl rfl ?_
      refine v_load rfl rfl ⟨rfl, Nat.le_of_ble_eq_true rfl⟩ ?_
      refine v_load rfl rfl ⟨rfl, Nat.le_of_ble_eq_true rfl⟩ ?_
      refine v_getp rfl rfl rfl ?_
      refine v_load rfl rfl ⟨rfl, Nat.le_of_ble_eq_true rfl⟩ ?_
      refine v_ald9 rfl rfl ⟨by omega, by show _ < (1600 : Int); omega⟩ ?_
      simp (disch := decide) only [u_n1]; rw [e86]
      refine v_push rfl ?_
      refine v_ine rfl (fun h => absurd h (by omega)) (fun _ => ?_)
      refine v_push rfl ?_
      refine v_goto rfl ?_
      refine v_ast9 rfl rfl (by decide) ⟨by omega, by show _ < (1600 : Int); omega⟩ ?_
      refine v_load rfl rfl ⟨rfl, Nat.le_of_ble_eq_true rfl⟩ ?_
      refine v_getp rfl rfl rfl ?_
      refine v_load rfl rfl ⟨rfl, Nat.le_of_ble_eq_true rfl⟩ ?_
      refine v_push rfl ?_
      refine v_ast9 rfl rfl (by decide) ⟨by omega, by show _ < (1600 : Int); omega⟩ ?_
      refine v_load rfl rfl ⟨rfl, Nat.le_of_ble_eq_true rfl⟩ ?_
      refine v_getp rfl rfl rfl ?_
      refine v_load rfl rfl ⟨rfl, Nat.le_of_ble_eq_true rfl⟩ ?_
      refine v_load rfl rfl ⟨rfl, Nat.le_of_ble_eq_true rfl⟩ ?_
      refine v_getp rfl rfl rfl ?_
      refine v_load rfl rfl ⟨rfl, Nat.le_of_ble_eq_true rfl⟩ ?_
      refine v_ald9 rfl rfl ⟨by omega, by show _ < (1600 : Int); omega⟩ ?_
      simp (disch := decide) only [u_n1]; rw [e87]
      refine v_ast9 rfl rfl (by decide) ⟨by omega, by show _ < (1600 : Int); omega⟩ ?_
      refine v_load rfl rfl ⟨rfl, Nat.le_of_ble_eq_true rfl⟩ ?_
      refine v_getp rfl rfl rfl ?_
      refine v_load rfl rfl ⟨rfl, Nat.le_of_ble_eq_true rfl⟩ ?_
      refine v_load rfl rfl ⟨rfl, Nat.le_of_ble_eq_true rfl⟩ ?_
      refine v_getp rfl rfl rfl ?_
      refine v_load rfl rfl ⟨rfl, Nat.le_of_ble_eq_true rfl⟩ ?_
      refine v_ald9 rfl rfl ⟨by omega, by show _ < (1600 : Int); omega⟩ ?_
      simp (disch := decide) only [u_n1]
      refine v_ast9 rfl rfl (by decide) ⟨by omega, by show _ < (1600 : Int); omega⟩ ?_
      refine v_load rfl rfl ⟨rfl, Nat.le_of_ble_eq_true rfl⟩ ?_
      refine v_getp rfl rfl rfl ?_
      refine v_load rfl rfl ⟨rfl, Nat.le_of_ble_eq_true rfl⟩ ?_
      refine v_ald9 rfl rfl ⟨by omega, by show _ < (1600 : Int); omega⟩ ?_
      simp (disch := decide) only [u_n1]; rw [e86]
      refine v_push rfl ?_
      refine v_ieq rfl (fun _ => ?_) (fun h => absurd h (by omega))
      refine v_load rfl rfl ⟨rfl, Nat.le_of_ble_eq_true rfl⟩ ?_
      refine v_load rfl rfl ⟨rfl, Nat.le_of_ble_eq_true rfl⟩ ?_
      refine v_getx rfl rfl (show _ = (N.length : Int) by simp (disch := decide) only [u_n1]; exact h1) ?_
      refine v_push rfl ?_
      refine v_add rfl (by omega) ?_
      refine v_puti rfl rfl rfl ?_
      refine v_ret rfl rfl ?_
      exact end1 hlf
  rcases hp with ⟨rfl, rfl, hd⟩ | ⟨p0, p1, p2, rfl, p4, p5, p6, p7, p8⟩
  · refine v_load rfl rfl ⟨rfl, Nat.le_of_ble_eq_true rfl⟩ ?_
    refine v_getx rfl rfl (h1) ?_
    refine v_store rfl ⟨rfl, Nat.le_of_ble_eq_true rfl, Nat.le_of_ble_eq_true rfl, rfl⟩ rfl ?_
    refine v_load rfl rfl ⟨rfl, Nat.le_of_ble_eq_true rfl⟩ ?_
    refine v_getp rfl rfl rfl ?_
    refine v_load rfl rfl ⟨rfl, Nat.le_of_ble_eq_true rfl⟩ ?_
    refine v_ald9 rfl rfl ⟨by omega, by show _ < (1600 : Int); omega⟩ ?_
    rw [e92]
    refine v_push rfl ?_
    refine v_ine rfl (fun h => absurd h (by decide)) (fun _ => ?_)
    refine v_push rfl ?_
    refine v_goto rfl ?_
    refine v_store rfl ⟨rfl, Nat.le_of_ble_eq_true rfl, Nat.le_of_ble_eq_true rfl, rfl⟩ rfl ?_
    refine v_load rfl rfl ⟨rfl, Nat.le_of_ble_eq_true rfl⟩ ?_
    refine v_getp rfl rfl rfl ?_
    refine v_load rfl rfl ⟨rfl, Nat.le_of_ble_eq_true rfl⟩ ?_
    refine v_load rfl rfl ⟨rfl, Nat.le_of_ble_eq_true rfl⟩ ?_
    refine v_ast9 rfl rfl (by decide) ⟨by omega, by show _ < (1600 : Int); omega⟩ ?_
    refine v_load rfl rfl ⟨rfl, Nat.le_of_ble_eq_true rfl⟩ ?_
    refine v_getp rfl rfl rfl ?_
    refine v_load rfl rfl ⟨rfl, Nat.le_of_ble_eq_true rfl⟩ ?_
    refine v_load rfl rfl ⟨rfl, Nat.le_of_ble_eq_true rfl⟩ ?_
    refine v_getp rfl rfl rfl ?_
    refine v_load rfl rfl ⟨rfl, Nat.le_of_ble_eq_true rfl⟩ ?_
    refine v_ald9 rfl rfl ⟨by omega, by show _ < (1600 : Int); omega⟩ ?_
    simp (disch := decide) only [u_n1]; rw [e85]
    refine v_ast9 rfl rfl (by decide) ⟨by omega, by show _ < (1600 : Int); omega⟩ ?_
    refine v_load rfl rfl ⟨rfl, Nat.le_of_ble_eq_true rfl⟩ ?_
    refine v_getp rfl rfl rfl ?_
    refine v_load rfl rfl ⟨rfl, Nat.le_of_ble_eq_true rfl⟩ ?_
    refine v_load rfl rfl ⟨rfl, Nat.le_of_ble_eq_true rfl⟩ ?_
    refine v_ast9 rfl rfl (by decide) ⟨by omega, by show _ < (1600 : Int); omega⟩ ?_
    refine v_load rfl rfl ⟨rfl, Nat.le_of_ble_eq_true rfl⟩ ?_
    refine v_getp rfl rfl rfl ?_
    refine v_load rfl rfl ⟨rfl, Nat.le_of_ble_eq_true rfl⟩ ?_
    refine v_load rfl rfl ⟨rfl, Nat.le_of_ble_eq_true rfl⟩ ?_
    refine v_push rfl ?_
    refine v_ine rfl (fun h => absurd h (by decide)) (fun _ => ?_)
    refine v_push rfl ?_
    refine v_goto rfl ?_
    exact mid 1 hd.symm
  · have hdp : M 102 (M 110 p) = q.2.2.2.2.1 - 1 := by
      have := (h3 (M 110 p).toNat (by omega)).2.2.1
      rw [show (((M 110 p).toNat : Nat) : Int) = M 110 p by omega] at this
      rw [this]; exact p6
    refine v_load rfl rfl ⟨rfl, Nat.le_of_ble_eq_true rfl⟩ ?_
    refine v_getx rfl rfl (h1) ?_
    refine v_store rfl ⟨rfl, Nat.le_of_ble_eq_true rfl, Nat.le_of_ble_eq_true rfl, rfl⟩ rfl ?_
    refine v_load rfl rfl ⟨rfl, Nat.le_of_ble_eq_true rfl⟩ ?_
    refine v_getp rfl rfl rfl ?_
    refine v_load rfl rfl ⟨rfl, Nat.le_of_ble_eq_true rfl⟩ ?_
    refine v_ald9 rfl rfl ⟨by omega, by show _ < (1600 : Int); omega⟩ ?_
    rw [e92]
    refine v_push rfl ?_
    refine v_ine rfl (fun _ => ?_) (fun h => absurd h (by omega))
    refine v_load rfl rfl ⟨rfl, Nat.le_of_ble_eq_true rfl⟩ ?_
    refine v_getp rfl rfl rfl ?_
    refine v_load rfl rfl ⟨rfl, Nat.le_of_ble_eq_true rfl⟩ ?_
    refine v_getp rfl rfl rfl ?_
    refine v_load rfl rfl ⟨rfl, Nat.le_of_ble_eq_true rfl⟩ ?_
    refine v_ald9 rfl rfl ⟨by omega, by show _ < (1600 : Int); omega⟩ ?_
    rw [e92]
    refine v_ald9 rfl rfl ⟨by omega, by show _ < (1600 : Int); omega⟩ ?_
    refine v_store rfl ⟨rfl, Nat.le_of_ble_eq_true rfl, Nat.le_of_ble_eq_true rfl, rfl⟩ rfl ?_
    refine v_load rfl rfl ⟨rfl, Nat.le_of_ble_eq_true rfl⟩ ?_
    refine v_getp rfl rfl rfl ?_
    refine v_load rfl rfl ⟨rfl, Nat.le_of_ble_eq_true rfl⟩ ?_
    refine v_load rfl rfl ⟨rfl, Nat.le_of_ble_eq_true rfl⟩ ?_
    refine v_ast9 rfl rfl (by decide) ⟨by omega, by show _ < (1600 : Int); omega⟩ ?_
    refine v_load rfl rfl ⟨rfl, Nat.le_of_ble_eq_true rfl⟩ ?_
    refine v_getp rfl rfl rfl ?_
    refine v_load rfl rfl ⟨rfl, Nat.le_of_ble_eq_true rfl⟩ ?_
    refine v_load rfl rfl ⟨rfl, Nat.le_of_ble_eq_true rfl⟩ ?_
    refine v_getp rfl rfl rfl ?_
    refine v_load rfl rfl ⟨rfl, Nat.le_of_ble_eq_true rfl⟩ ?_
    refine v_ald9 rfl rfl ⟨by omega, by show _ < (1600 : Int); omega⟩ ?_
    simp (disch := decide) only [u_n1]; rw [e85]
    refine v_ast9 rfl rfl (by decide) ⟨by omega, by show _ < (1600 : Int); omega⟩ ?_
    refine v_load rfl rfl ⟨rfl, Nat.le_of_ble_eq_true rfl⟩ ?_
    refine v_getp rfl rfl rfl ?_
    refine v_load rfl rfl ⟨rfl, Nat.le_of_ble_eq_true rfl⟩ ?_
    refine v_load rfl rfl ⟨rfl, Nat.le_of_ble_eq_true rfl⟩ ?_
    refine v_ast9 rfl rfl (by decide) ⟨by omega, by show _ < (1600 : Int); omega⟩ ?_
    refine v_load rfl rfl ⟨rfl, Nat.le_of_ble_eq_true rfl⟩ ?_
    refine v_getp rfl rfl rfl ?_
    refine v_load rfl rfl ⟨rfl, Nat.le_of_ble_eq_true rfl⟩ ?_
    refine v_load rfl rfl ⟨rfl, Nat.le_of_ble_eq_true rfl⟩ ?_
    refine v_push rfl ?_
    refine v_ine rfl (fun _ => ?_) (fun h => absurd h (by omega))
    refine v_load rfl rfl ⟨rfl, Nat.le_of_ble_eq_true rfl⟩ ?_
    refine v_getp rfl rfl rfl ?_
    refine v_load rfl rfl ⟨rfl, Nat.le_of_ble_eq_true rfl⟩ ?_
    refine v_ald9 rfl rfl ⟨by omega, by show _ < (1600 : Int); omega⟩ ?_
    simp (disch := decide) only [u_n1]; rw [hdp]
    refine v_push rfl ?_
    refine v_add rfl (by omega) ?_
    exact mid _ (by omega)
end RNU
