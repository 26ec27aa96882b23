/-! THE REFERENCE'S PARSER: making nodes, frames -/
def mkM (M : zM) (h so a : Int) : zM := z_upd (z_upd (z_upd (z_upd (z_upd (z_upd (z_upd (z_upd (z_upd M 85 h so) 86 h (-1)) 87 h 0) 88 h a) 89 h (-1)) 90 h (-1)) 91 h (-1)) 92 h (-1)) 77 19 (h + 1)
theorem mkM_KB {M : zM} {h so a : Int} : KB M (mkM M h so a) := by
  intro b j h1 h2
  unfold mkM
  have h3 : ¬ (b = 77 ∧ j = 19) := fun z => (h2 z.1).1 z.2
  simp only [z_upd]
  repeat' rw [if_neg (by omega)]
theorem mkM_ne {M : zM} {h so a b j : Int} (hb : 85 ≤ b ∧ b ≤ 92) (hj : j ≠ h) : mkM M h so a b j = M b j := by
  unfold mkM
  simp only [z_upd]
  repeat' rw [if_neg (by omega)]
theorem mkM_at {M : zM} {h so a : Int} : mkM M h so a 85 h = so ∧ mkM M h so a 86 h = -1 ∧ mkM M h so a 87 h = 0 ∧ mkM M h so a 88 h = a ∧ mkM M h so a 89 h = -1 ∧ mkM M h so a 90 h = -1 ∧ mkM M h so a 91 h = -1 ∧ mkM M h so a 92 h = -1 ∧ mkM M h so a 77 19 = h + 1 ∧ mkM M h so a 77 28 = M 77 28 := by
  unfold mkM
  simp (disch := decide) only [u_n1, u_n2, u_eq, and_self]
theorem GV_new {V V' M M' : zM} {h : Int} (hg : GV V M h) (h1 : ∀ b x, 85 ≤ b → b ≤ 92 → x ≠ h → M' b x = M b x) (h2 : ∀ b x, 53 ≤ b → b ≤ 60 → x ≠ h → V' b x = V b x) (hn : GN V' M' h) : GV V' M' (h + 1) := by
  intro x x0 x1
  by_cases e : x = h
  · rw [e]; exact hn
  · exact GN_fr (hg x x0 (by omega)) (fun b b1 b2 => h1 b x b1 b2 e) (fun b b1 b2 _ => h2 b x b1 b2 e)
section RM
variable {L d : Nat} {M V V0 : zM} {Q : Option zV → zM → Prop} {t : List Int} {h a op_ ne rl lo : Int}
theorem R_makes0 {so : Int} (hK : KS t h a op_ ne rl V M) (hh : h < 1216) (k : Q (some (0, h)) (mkM M h so a)) : v_call L d 188 [(2, 77), (0, so)] M Q := by
  obtain ⟨-, ⟨p1, p2, p3, p4, p5⟩, -, r1, r2, r3, r4⟩ := hK
  refine v_in ?_
  refine v_load rfl rfl ⟨rfl, Nat.le_of_ble_eq_true rfl⟩ ?_
  refine v_getx rfl rfl (p1) ?_
  refine v_store rfl ⟨rfl, Nat.le_of_ble_eq_true rfl, Nat.le_of_ble_eq_true rfl, rfl⟩ rfl ?_
  refine v_load rfl rfl ⟨rfl, Nat.le_of_ble_eq_true rfl⟩ ?_
  refine v_getp rfl rfl rfl ?_
  refine v_load rfl rfl ⟨rfl, Nat.le_of_ble_eq_true rfl⟩ ?_
  refine v_load rfl rfl ⟨rfl, Nat.le_of_ble_eq_true rfl⟩ ?_
  refine v_ast9 rfl rfl (by decide) ⟨by omega, by show _ < (1600 : Int); omega⟩ ?_
  refine v_load rfl rfl ⟨rfl, Nat.le_of_ble_eq_true rfl⟩ ?_
  refine v_getp rfl rfl rfl ?_
  refine v_load rfl rfl ⟨rfl, Nat.le_of_ble_eq_true rfl⟩ ?_
  refine v_push rfl ?_
  refine v_ast9 rfl rfl (by decide) ⟨by omega, by show _ < (1600 : Int); omega⟩ ?_
  refine v_load rfl rfl ⟨rfl, Nat.le_of_ble_eq_true rfl⟩ ?_
  refine v_getp rfl rfl rfl ?_
  refine v_load rfl rfl ⟨rfl, Nat.le_of_ble_eq_true rfl⟩ ?_
  refine v_push rfl ?_
  refine v_ast9 rfl rfl (by decide) ⟨by omega, by show _ < (1600 : Int); omega⟩ ?_
  refine v_load rfl rfl ⟨rfl, Nat.le_of_ble_eq_true rfl⟩ ?_
  refine v_getp rfl rfl rfl ?_
  refine v_load rfl rfl ⟨rfl, Nat.le_of_ble_eq_true rfl⟩ ?_
  refine v_load rfl rfl ⟨rfl, Nat.le_of_ble_eq_true rfl⟩ ?_
  refine v_getx rfl rfl (show _ = a by simp (disch := decide) only [u_n1, p2]) ?_
  refine v_ast9 rfl rfl (by decide) ⟨by omega, by show _ < (1600 : Int); omega⟩ ?_
  refine v_load rfl rfl ⟨rfl, Nat.le_of_ble_eq_true rfl⟩ ?_
  refine v_getp rfl rfl rfl ?_
  refine v_load rfl rfl ⟨rfl, Nat.le_of_ble_eq_true rfl⟩ ?_
  refine v_push rfl ?_
  refine v_ast9 rfl rfl (by decide) ⟨by omega, by show _ < (1600 : Int); omega⟩ ?_
  refine v_load rfl rfl ⟨rfl, Nat.le_of_ble_eq_true rfl⟩ ?_
  refine v_getp rfl rfl rfl ?_
  refine v_load rfl rfl ⟨rfl, Nat.le_of_ble_eq_true rfl⟩ ?_
  refine v_push rfl ?_
  refine v_ast9 rfl rfl (by decide) ⟨by omega, by show _ < (1600 : Int); omega⟩ ?_
  refine v_load rfl rfl ⟨rfl, Nat.le_of_ble_eq_true rfl⟩ ?_
  refine v_getp rfl rfl rfl ?_
  refine v_load rfl rfl ⟨rfl, Nat.le_of_ble_eq_true rfl⟩ ?_
  refine v_push rfl ?_
  refine v_ast9 rfl rfl (by decide) ⟨by omega, by show _ < (1600 : Int); omega⟩ ?_
  refine v_load rfl rfl ⟨rfl, Nat.le_of_ble_eq_true rfl⟩ ?_
  refine v_getp rfl rfl rfl ?_
  refine v_load rfl rfl ⟨rfl, Nat.le_of_ble_eq_true rfl⟩ ?_
  refine v_push rfl ?_
  refine v_ast9 rfl rfl (by decide) ⟨by omega, by show _ < (1600 : Int); omega⟩ ?_
  refine v_load rfl rfl ⟨rfl, Nat.le_of_ble_eq_true rfl⟩ ?_
  refine v_load rfl rfl ⟨rfl, Nat.le_of_ble_eq_true rfl⟩ ?_
  refine v_getx rfl rfl (show _ = h by simp (disch := decide) only [u_n1, p1]) ?_
  refine v_push rfl ?_
  refine v_add rfl (by omega) ?_
  refine v_puti rfl rfl rfl ?_
  refine v_load rfl rfl ⟨rfl, Nat.le_of_ble_eq_true rfl⟩ ?_
  refine v_ret rfl rfl ?_
  exact k
/-- a leaf -/
theorem R_leaf {so : Int} (sg : Int) (hK : KS t h a op_ ne rl V M) (hh : h < 1216) (ha : a < 999) (hl : isLf so = true) (k : ∀ M' V' I, KS t (h + 1) (a + 1) op_ ne rl V' M' → RES h V (h + 1) V' h (lfN so a 1 sg) I → KB M M' → Q (some (0, h)) M') : v_call L (d + 1) 189 [(2, 77), (0, so)] M Q := by
  have hK' := hK
  obtain ⟨-, ⟨p1, p2, p3, p4, p5⟩, hg, r1, r2, r3, r4⟩ := hK
  obtain ⟨m1, m2, m3, m4, m5, m6, m7, m8, m9, m10⟩ := mkM_at (M := M) (h := h) (so := so) (a := a)
  refine v_in ?_
  refine v_load rfl rfl ⟨rfl, Nat.le_of_ble_eq_true rfl⟩ ?_
  refine v_load rfl rfl ⟨rfl, Nat.le_of_ble_eq_true rfl⟩ ?_
  refine v_callr rfl ⟨Nat.le_of_ble_eq_true rfl, Nat.le_of_ble_eq_true rfl, rfl, Nat.le_of_ble_eq_true rfl, rfl⟩ ?_
  refine R_makes0 hK' hh ?_
  refine v_store rfl ⟨rfl, Nat.le_of_ble_eq_true rfl, Nat.le_of_ble_eq_true rfl, rfl⟩ rfl ?_
  refine v_load rfl rfl ⟨rfl, Nat.le_of_ble_eq_true rfl⟩ ?_
  refine v_getp rfl rfl rfl ?_
  refine v_load rfl rfl ⟨rfl, Nat.le_of_ble_eq_true rfl⟩ ?_
  refine v_load rfl rfl ⟨rfl, Nat.le_of_ble_eq_true rfl⟩ ?_
  refine v_getx rfl rfl (show _ = a from m10.trans p2) ?_
  refine v_ast9 rfl rfl (by decide) ⟨by omega, by show _ < (1600 : Int); omega⟩ ?_
  refine v_load rfl rfl ⟨rfl, Nat.le_of_ble_eq_true rfl⟩ ?_
  refine v_load rfl rfl ⟨rfl, Nat.le_of_ble_eq_true rfl⟩ ?_
  refine v_getx rfl rfl (show _ = a by rw [u_n1 (by decide)]; exact m10.trans p2) ?_
  refine v_push rfl ?_
  refine v_add rfl (by omega) ?_
  refine v_puti rfl rfl rfl ?_
  refine v_load rfl rfl ⟨rfl, Nat.le_of_ble_eq_true rfl⟩ ?_
  refine v_ret rfl rfl ?_
  have h17 : ¬ so = 17 := fun z => by rw [z] at hl; exact absurd hl (by decide)
  have h4 : ¬ (so = 17 ∨ so = 4 ∨ so = 0) := fun z => by rcases z with rfl | rfl | rfl <;> exact absurd hl (by decide)
  obtain ⟨e1, e2, e3, e4, e5, e6, e7, e8⟩ := gmk_at (V := V) (h := h) (so := so) (fr := a) (up := a + 1) (sg := sg)
  have hb : KB M (z_upd (z_upd (mkM M h so a) 86 h a) 77 28 (a + 1)) := by
    intro b j h1 h2
    rw [← mkM_KB (M := M) (h := h) (so := so) (a := a) b j h1 h2]
    have h3 : ¬ (b = 77 ∧ j = 28) := fun z => (h2 z.1).2 z.2
    simp only [z_upd]
    rw [if_neg h3, if_neg (by omega)]
  refine k _ (gmk V h so a (a + 1) sg) [h] (KS_KB hK' hb (by rw [u_n2 (by decide), u_n1 (by decide)]; exact m9) u_eq (GV_new hg ?_ ?_ ?_) ⟨by omega, by omega, by omega, by omega⟩) (gmk_RES r1) hb
  · intro b x b1 b2 hx
    rw [u_n1 (by omega), u_n2 hx, mkM_ne ⟨b1, b2⟩ hx]
  · intro b x b1 b2 hx
    exact gmk_ne hx
  · unfold GN
    rw [e1, e2, e4, e5, e6, e7, e8, if_pos hl, if_neg h17]
    simp (disch := decide) only [u_n1, u_eq, m1, m3, m4, m5, m6, m7, m8, true_and, and_true]
    intro z
    exact absurd z h4
/-- what is missing -/
theorem R_miss {sg : Int} (hK : KS t h a op_ ne rl V M) (hh : h < 1216) (k : ∀ M' V' I, KS t (h + 1) a op_ ne rl V' M' → RES h V (h + 1) V' h (lfN 17 a 0 sg) I → KB M M' → Q (some (0, h)) M') : v_call L (d + 1) 190 [(2, 77), (0, sg)] M Q := by
  have hK' := hK
  obtain ⟨-, ⟨p1, p2, p3, p4, p5⟩, hg, r1, r2, r3, r4⟩ := hK
  obtain ⟨m1, m2, m3, m4, m5, m6, m7, m8, m9, m10⟩ := mkM_at (M := M) (h := h) (so := 17) (a := a)
  refine v_in ?_
  refine v_load rfl rfl ⟨rfl, Nat.le_of_ble_eq_true rfl⟩ ?_
  refine v_push rfl ?_
  refine v_callr rfl ⟨Nat.le_of_ble_eq_true rfl, Nat.le_of_ble_eq_true rfl, rfl, Nat.le_of_ble_eq_true rfl, rfl⟩ ?_
  refine R_makes0 hK' hh ?_
  refine v_store rfl ⟨rfl, Nat.le_of_ble_eq_true rfl, Nat.le_of_ble_eq_true rfl, rfl⟩ rfl ?_
  refine v_load rfl rfl ⟨rfl, Nat.le_of_ble_eq_true rfl⟩ ?_
  refine v_getp rfl rfl rfl ?_
  refine v_load rfl rfl ⟨rfl, Nat.le_of_ble_eq_true rfl⟩ ?_
  refine v_load rfl rfl ⟨rfl, Nat.le_of_ble_eq_true rfl⟩ ?_
  refine v_ast9 rfl rfl (by decide) ⟨by omega, by show _ < (1600 : Int); omega⟩ ?_
  refine v_load rfl rfl ⟨rfl, Nat.le_of_ble_eq_true rfl⟩ ?_
  refine v_ret rfl rfl ?_
  obtain ⟨e1, e2, e3, e4, e5, e6, e7, e8⟩ := gmk_at (V := V) (h := h) (so := 17) (fr := a) (up := a + 0) (sg := sg)
  have hb : KB M (z_upd (mkM M h 17 a) 87 h sg) := by
    intro b j h1 h2
    rw [← mkM_KB (M := M) (h := h) (so := 17) (a := a) b j h1 h2]
    simp only [z_upd]
    rw [if_neg (by omega)]
  refine k _ (gmk V h 17 a (a + 0) sg) [h] (KS_KB hK' hb (by rw [u_n1 (by decide)]; exact m9) (by rw [u_n1 (by decide)]; exact m10.trans p2) (GV_new hg ?_ ?_ ?_) ⟨by omega, by omega, by omega, by omega⟩) (gmk_RES r1) hb
  · intro b x b1 b2 hx
    rw [u_n2 hx, mkM_ne ⟨b1, b2⟩ hx]
  · intro b x b1 b2 hx
    exact gmk_ne hx
  · unfold GN
    rw [e1, e2, e4, e5, e6, e7, e8, if_neg (show ¬ isLf 17 = true by decide), if_pos rfl]
    simp (disch := decide) only [u_n1, u_eq, m1, m2, m4, m5, m6, m7, m8, true_and, and_true]
    exact fun _ => trivial
/-- an open draft -/
theorem R_open {so : Int} (fr : Int) (hK : KS t h a op_ ne rl V M) (hh : h < 1216) (hl : isLf so = false ∧ so ≠ 17) (hf : so = 4 ∨ so = 0 → fr = a) (k : ∀ M' V', KS t (h + 1) a op_ ne rl V' M' → OPN h V V' h so fr 0 [] (h + 1) → KB M M' → Q (some (0, h)) M') : v_call L d 188 [(2, 77), (0, so)] M Q := by
  have hK' := hK
  obtain ⟨-, ⟨p1, p2, p3, p4, p5⟩, hg, r1, r2, r3, r4⟩ := hK
  obtain ⟨m1, m2, m3, m4, m5, m6, m7, m8, m9, m10⟩ := mkM_at (M := M) (h := h) (so := so) (a := a)
  obtain ⟨e1, e2, e3, e4, e5, e6, e7, e8⟩ := gmk_at (V := V) (h := h) (so := so) (fr := fr) (up := a) (sg := 0)
  refine R_makes0 hK' hh (k _ (gmk V h so fr a 0) (KS_KB hK' mkM_KB m9 (m10.trans p2) (GV_new hg (fun b x b1 b2 hx => mkM_ne ⟨b1, b2⟩ hx) (fun b x _ _ hx => gmk_ne hx) ?_) ⟨by omega, by omega, by omega, by omega⟩) (gmk_OPN r1) mkM_KB)
  unfold GN
  rw [e1, e2, e4, e5, e6, e7, e8, if_neg (by rw [hl.1]; decide), if_neg hl.2]
  refine ⟨m1, m2, m3, fun z => ?_, m5, m6, m7, m8⟩
  rw [m4]
  exact (hf (z.resolve_left hl.2)).symm
/-- adds: a child more -/
theorem R_addsG {x so fr sg y : Int} {ks : List zK} {τ : List zN} {I : List Int} (ho : op V x so fr sg ks) (ht : tr V y τ I) (h60 : V 60 y = -1) (hnd : (x :: (ids ks ++ I)).Nodup) (hin : ∀ i ∈ x :: (ids ks ++ I), i < h) (hK : KS t h a op_ ne rl V M) (k : ∀ M', KS t h a op_ ne rl (hgV V x y ks) M' → KB M M' → Q none M') : v_call L d 191 [(2, 77), (0, x), (0, y)] M Q := by
  have hx := hin x (List.mem_cons_self ..)
  have hy := hin y (List.mem_cons_of_mem _ (List.mem_append_right _ (tr_mem ht).1))
  have hx0 := ho.1
  have hy0 := (tr_mem ht).2.1
  have hK' := hK
  obtain ⟨-, ⟨p1, p2, p3, p4, p5⟩, hg, r1, r2, r3, r4⟩ := hK
  have hxy : x ≠ y := fun e => (List.nodup_cons.mp hnd).1 (List.mem_append_right _ (e ▸ (tr_mem ht).1))
  have gx := hg x hx0 hx
  have e58 := ho.2.2.2.2.1
  have e59 := ho.2.2.2.2.2.1
  have fin : ∀ M', (∀ b j, 85 ≤ b → b ≤ 88 → M' b j = M b j) → KB M M' → M' 77 19 = M 77 19 → M' 77 28 = M 77 28 → (∀ j, M' 89 j = if ks = [] ∧ j = x then y else M 89 j) → (∀ j, M' 90 j = if j = x then y else M 90 j) → (∀ j, M' 91 j = if ks ≠ [] ∧ j = lst ks then y else M 91 j) → (∀ j, M' 92 j = if j = y then x else M 92 j) → Q none M' := by
    intro M' q1 q2 q3 q4 q5 q6 q7 q8
    refine k M' (KS_KB hK' q2 (q3.trans p1) (q4.trans p2) ?_ ⟨r1, r2, r3, r4⟩) q2
    intro z z0 z1
    obtain ⟨g1, g2, g3, g4, g5, g6, g7, g8⟩ := hg z z0 z1
    have v53 : ∀ b, 53 ≤ b → b ≤ 56 → hgV V x y ks b z = V b z := fun b b1 b2 => by
      unfold hgV
      by_cases hks : ks = [] <;> simp only [hks, if_true, if_false] <;> simp (disch := omega) only [u_n1]
    unfold GN
    rw [v53 53 (by decide) (by decide), v53 54 (by decide) (by decide), v53 56 (by decide) (by decide), q1 85 z (by decide) (by decide), q1 86 z (by decide) (by decide), q1 87 z (by decide) (by decide), q1 88 z (by decide) (by decide), q5, q6, q7, q8]
    refine ⟨g1, g2, g3, g4, ?_, ?_, ?_, ?_⟩
    · unfold hgV
      by_cases hks : ks = []
      · simp only [hks, if_true, true_and, z_upd]
        simp [g5]
      · simp only [hks, if_false, false_and, z_upd]
        simp [g5]
    · unfold hgV
      by_cases hks : ks = [] <;> simp only [hks, if_true, if_false, z_upd] <;> simp [g6]
    · unfold hgV
      by_cases hks : ks = []
      · subst hks
        simp only [if_true, z_upd]
        by_cases zy : z = y
        · subst zy; simp [g7, h60]
        · simp [g7, zy]
      · obtain ⟨q, hq, e2⟩ := lst_mem ks hks
        have hql : lst ks ∈ ids ks := by rw [← e2]; exact ids_mem hq (tr_mem (ho.2.2.2.2.2.2.2.1 q hq)).1
        have hly : lst ks ≠ y := fun e => (List.nodup_append.mp (List.nodup_cons.mp hnd).2).2.2 _ hql _ (tr_mem ht).1 e
        simp only [hks, if_false, z_upd, ne_eq, not_false_eq_true, true_and]
        by_cases zy : z = y
        · subst zy; simp [g7, h60, Ne.symm hly]
        · simp [g7, zy]
    · unfold hgV
      by_cases hks : ks = [] <;> simp only [hks, if_true, if_false, z_upd] <;> simp [g8]
  refine v_in ?_
  by_cases hks : ks = []
  · have e1 : M 89 x = -1 := by rw [gx.2.2.2.2.1, e58, hks]; rfl
    refine v_load rfl rfl ⟨rfl, Nat.le_of_ble_eq_true rfl⟩ ?_
    refine v_getp rfl rfl rfl ?_
    refine v_load rfl rfl ⟨rfl, Nat.le_of_ble_eq_true rfl⟩ ?_
    refine v_ald9 rfl rfl ⟨by omega, by show _ < (1600 : Int); omega⟩ ?_
    refine v_push rfl ?_
    refine v_ine rfl (fun h => absurd h (fun z => z e1)) (fun _ => ?_)
    refine v_load rfl rfl ⟨rfl, Nat.le_of_ble_eq_true rfl⟩ ?_
    refine v_getp rfl rfl rfl ?_
    refine v_load rfl rfl ⟨rfl, Nat.le_of_ble_eq_true rfl⟩ ?_
    refine v_load rfl rfl ⟨rfl, Nat.le_of_ble_eq_true rfl⟩ ?_
    refine v_ast9 rfl rfl (by decide) ⟨by omega, by show _ < (1600 : Int); omega⟩ ?_
    refine v_goto rfl ?_
    refine v_load rfl rfl ⟨rfl, Nat.le_of_ble_eq_true rfl⟩ ?_
    refine v_getp rfl rfl rfl ?_
    refine v_load rfl rfl ⟨rfl, Nat.le_of_ble_eq_true rfl⟩ ?_
    refine v_load rfl rfl ⟨rfl, Nat.le_of_ble_eq_true rfl⟩ ?_
    refine v_ast9 rfl rfl (by decide) ⟨by omega, by show _ < (1600 : Int); omega⟩ ?_
    refine v_load rfl rfl ⟨rfl, Nat.le_of_ble_eq_true rfl⟩ ?_
    refine v_getp rfl rfl rfl ?_
    refine v_load rfl rfl ⟨rfl, Nat.le_of_ble_eq_true rfl⟩ ?_
    refine v_load rfl rfl ⟨rfl, Nat.le_of_ble_eq_true rfl⟩ ?_
    refine v_ast9 rfl rfl (by decide) ⟨by omega, by show _ < (1600 : Int); omega⟩ ?_
    refine v_ret rfl rfl ?_
    refine fin _ (fun b j b1 b2 => by simp (disch := omega) only [u_n1]) (fun b j b1 b2 => by simp (disch := omega) only [u_n1]) (by simp (disch := decide) only [u_n1]) (by simp (disch := decide) only [u_n1]) (fun j => ?_) (fun j => ?_) (fun j => ?_) (fun j => ?_)
    · simp [z_upd, hks]
    · simp [z_upd]
    · simp [z_upd, hks]
    · simp [z_upd]
  · obtain ⟨q, hq, e2⟩ := lst_mem ks hks
    have hql : lst ks ∈ ids ks := by rw [← e2]; exact ids_mem hq (tr_mem (ho.2.2.2.2.2.2.2.1 q hq)).1
    have hlr := hin _ (List.mem_cons_of_mem _ (List.mem_append_left _ hql))
    have hl0 : 0 ≤ lst ks := by rw [← e2]; exact (tr_mem (ho.2.2.2.2.2.2.2.1 q hq)).2.1
    have e1 : ¬ M 89 x = -1 := by
      rw [gx.2.2.2.2.1, e58]
      have := (hd1_ge ho.2.2.2.2.2.2.2.1 hks).1
      omega
    have e3 : M 90 x = lst ks := by rw [gx.2.2.2.2.2.1, e59]
    refine v_load rfl rfl ⟨rfl, Nat.le_of_ble_eq_true rfl⟩ ?_
    refine v_getp rfl rfl rfl ?_
    refine v_load rfl rfl ⟨rfl, Nat.le_of_ble_eq_true rfl⟩ ?_
    refine v_ald9 rfl rfl ⟨by omega, by show _ < (1600 : Int); omega⟩ ?_
    refine v_push rfl ?_
    refine v_ine rfl (fun _ => ?_) (fun h => absurd h (e1))
    refine v_load rfl rfl ⟨rfl, Nat.le_of_ble_eq_true rfl⟩ ?_
    refine v_getp rfl rfl rfl ?_
    refine v_load rfl rfl ⟨rfl, Nat.le_of_ble_eq_true rfl⟩ ?_
    refine v_getp rfl rfl rfl ?_
    refine v_load rfl rfl ⟨rfl, Nat.le_of_ble_eq_true rfl⟩ ?_
    refine v_ald9 rfl rfl ⟨by omega, by show _ < (1600 : Int); omega⟩ ?_
    rw [e3]
    refine v_load rfl rfl ⟨rfl, Nat.le_of_ble_eq_true rfl⟩ ?_
    refine v_ast9 rfl rfl (by decide) ⟨by omega, by show _ < (1600 : Int); omega⟩ ?_
    refine v_load rfl rfl ⟨rfl, Nat.le_of_ble_eq_true rfl⟩ ?_
    refine v_getp rfl rfl rfl ?_
    refine v_load rfl rfl ⟨rfl, Nat.le_of_ble_eq_true rfl⟩ ?_
    refine v_load rfl rfl ⟨rfl, Nat.le_of_ble_eq_true rfl⟩ ?_
    refine v_ast9 rfl rfl (by decide) ⟨by omega, by show _ < (1600 : Int); omega⟩ ?_
    refine v_load rfl rfl ⟨rfl, Nat.le_of_ble_eq_true rfl⟩ ?_
    refine v_getp rfl rfl rfl ?_
    refine v_load rfl rfl ⟨rfl, Nat.le_of_ble_eq_true rfl⟩ ?_
    refine v_load rfl rfl ⟨rfl, Nat.le_of_ble_eq_true rfl⟩ ?_
    refine v_ast9 rfl rfl (by decide) ⟨by omega, by show _ < (1600 : Int); omega⟩ ?_
    refine v_ret rfl rfl ?_
    refine fin _ (fun b j b1 b2 => by simp (disch := omega) only [u_n1]) (fun b j b1 b2 => by simp (disch := omega) only [u_n1]) (by simp (disch := decide) only [u_n1]) (by simp (disch := decide) only [u_n1]) (fun j => ?_) (fun j => ?_) (fun j => ?_) (fun j => ?_)
    · simp [z_upd, hks]
    · simp [z_upd]
    · simp [z_upd, hks]
    · simp [z_upd]
theorem R_adds {x so fr sg y h1 a1 op1 ne1 rl1 : Int} {ks : List zK} {τ : List zN} {I : List Int} {V1 M1 : zM} (hO : OPN lo V0 V x so fr sg ks h) (hK : KS t h1 a1 op1 ne1 rl1 V1 M1) (hl : h ≤ h1) (hR : RES h V h1 V1 y τ I) (k : ∀ M' V', KS t h1 a1 op1 ne1 rl1 V' M' → OPN lo V0 V' x so fr sg (ks ++ [(y, τ, I)]) h1 → KB M1 M' → Q none M') : v_call L d 191 [(2, 77), (0, x), (0, y)] M1 Q := by
  obtain ⟨ho, hin, hF0⟩ := hO
  obtain ⟨ht, hI, hF, h60⟩ := hR
  have ho1 : op V1 x so fr sg ks := op_fr ho (fun j hj b b1 b2 _ => hF b j (by omega) (fun _ => (hin j hj).2))
  have hx := hin x (List.mem_cons_self ..)
  have hnd : (x :: (ids ks ++ I)).Nodup := by
    have h8 := ho.2.2.2.2.2.2.2.2.1
    rw [List.nodup_cons] at h8 ⊢
    refine ⟨fun hm => ?_, List.nodup_append.mpr ⟨h8.2, (tr_mem ht).2.2.1, fun i hi j hj e => ?_⟩⟩
    · rcases List.mem_append.mp hm with hm | hm
      · exact h8.1 hm
      · have := hI _ hm; omega
    · have h1 := hin i (List.mem_cons_of_mem _ hi)
      have h2 := hI j hj
      omega
  have hr : ∀ i ∈ x :: (ids ks ++ I), lo ≤ i ∧ i < h1 := by
    intro i hi
    rcases List.mem_cons.mp hi with rfl | hi
    · omega
    · rcases List.mem_append.mp hi with hi | hi
      · have := hin i (List.mem_cons_of_mem _ hi); omega
      · have := hI i hi; omega
  have hfr : FR lo V1 (hgV V1 x y ks) := hg_FR hx.1 (hr y (List.mem_cons_of_mem _ (List.mem_append_right _ (tr_mem ht).1))).1 (fun hks => (hr _ (List.mem_cons_of_mem _ (List.mem_append_left _ (lst_ge ho1.2.2.2.2.2.2.2.1 hks).2))).1)
  exact R_addsG ho1 ht h60 hnd (fun i hi => (hr i hi).2) hK (fun M' hK' hb => k M' _ hK' ⟨hg_op ho1 ht hnd, fun i hi => hr i (by rw [ids_snoc] at hi; exact hi), FR_tr (FR_tr hF0 hF (by omega)) hfr (Int.le_refl _)⟩ hb)
/-- adds a left one -/
theorem R_addsL {so fr sg y : Int} {τ : List zN} {I : List Int} {V1 : zM} (hO : OPN h V V1 h so fr sg [] (h + 1)) (hR : RES lo V0 h V y τ I) (hl : lo ≤ h) (hK : KS t (h + 1) a op_ ne rl V1 M) (k : ∀ M' V', KS t (h + 1) a op_ ne rl V' M' → OPN lo V0 V' h so fr sg ([] ++ [(y, τ, I)]) (h + 1) → KB M M' → Q none M') : v_call L d 191 [(2, 77), (0, h), (0, y)] M Q := by
  obtain ⟨ho, hin, hF⟩ := hO
  obtain ⟨ht, hI, hF0, h60⟩ := hR
  have hy := hI y (tr_mem ht).1
  have ht1 : tr V1 y τ I := tr_fr ht (fun j hj b b1 b2 _ _ => hF b j (by omega) (fun _ => (hI j hj).2))
  have h61 : V1 60 y = -1 := by rw [hF 60 y (by decide) (fun _ => hy.2)]; exact h60
  have hnd : (h :: (ids [] ++ I)).Nodup := by
    refine List.nodup_cons.mpr ⟨fun hm => ?_, (tr_mem ht).2.2.1⟩
    have := hI h hm
    omega
  have hr : ∀ i ∈ h :: (ids [] ++ I), lo ≤ i ∧ i < h + 1 := by
    intro i hi
    rcases List.mem_cons.mp hi with rfl | hi
    · omega
    · have := hI i hi
      omega
  exact R_addsG ho ht1 h61 hnd (fun i hi => (hr i hi).2) hK (fun M' hK' hb => k M' _ hK' ⟨hg_op ho ht1 hnd, fun i hi => hr i (by rw [ids_snoc] at hi; exact hi), FR_tr (FR_tr hF0 hF hl) (hg_FR hl hy.1 (fun z => absurd rfl z)) (Int.le_refl _)⟩ hb)
/-- a sign: a mark, or what is missing -/
theorem R_signs {x so fr sg s : Int} {ks : List zK} (hO : OPN lo V0 V x so fr sg ks h) (hK : KS t h a op_ ne rl V M) (hs : 40 ≤ s) (hh : h < 1216) (ha : a < 999) (k : ∀ M' V' I, KS t (h + 1) (clos (toks t) s a).2 op_ ne rl V' M' → OPN lo V0 V' x so fr sg (ks ++ [(h, (clos (toks t) s a).1, I)]) (h + 1) → KB M M' → Q none M') : v_call L (d + 2) 199 [(2, 77), (0, x), (0, s)] M Q := by
  refine v_in ?_
  refine v_load rfl rfl ⟨rfl, Nat.le_of_ble_eq_true rfl⟩ ?_
  refine v_load rfl rfl ⟨rfl, Nat.le_of_ble_eq_true rfl⟩ ?_
  refine v_load rfl rfl ⟨rfl, Nat.le_of_ble_eq_true rfl⟩ ?_
  refine v_load rfl rfl ⟨rfl, Nat.le_of_ble_eq_true rfl⟩ ?_
  refine v_callr rfl ⟨Nat.le_of_ble_eq_true rfl, Nat.le_of_ble_eq_true rfl, rfl, Nat.le_of_ble_eq_true rfl, rfl⟩ ?_
  refine R_isNext hK hs ?_
  by_cases e : sgn (toks t) a = s
  · have ec : clos (toks t) s a = (lfN 16 a 1 s, a + 1) := if_pos e
    rw [ec] at k
    rw [if_pos e]
    refine v_ifeq rfl (fun h => absurd h (by decide)) (fun _ => ?_)
    refine v_load rfl rfl ⟨rfl, Nat.le_of_ble_eq_true rfl⟩ ?_
    refine v_push rfl ?_
    refine v_callr rfl ⟨Nat.le_of_ble_eq_true rfl, Nat.le_of_ble_eq_true rfl, rfl, Nat.le_of_ble_eq_true rfl, rfl⟩ ?_
    refine R_leaf s hK hh ha rfl (fun M1 V1 I hK1 hR1 hb1 => ?_)
    refine v_goto rfl ?_
    refine v_callr rfl ⟨Nat.le_of_ble_eq_true rfl, Nat.le_of_ble_eq_true rfl, rfl, Nat.le_of_ble_eq_true rfl, rfl⟩ ?_
    refine R_adds hO hK1 (by omega) hR1 (fun M2 V2 hK2 hO2 hb2 => ?_)
    refine v_ret rfl rfl ?_
    exact k M2 V2 I hK2 hO2 (KB_tr hb1 hb2)
  · have ec : clos (toks t) s a = (lfN 17 a 0 s, a) := if_neg e
    rw [ec] at k
    rw [if_neg e]
    refine v_ifeq rfl (fun _ => ?_) (fun h => absurd h (by decide))
    refine v_load rfl rfl ⟨rfl, Nat.le_of_ble_eq_true rfl⟩ ?_
    refine v_load rfl rfl ⟨rfl, Nat.le_of_ble_eq_true rfl⟩ ?_
    refine v_callr rfl ⟨Nat.le_of_ble_eq_true rfl, Nat.le_of_ble_eq_true rfl, rfl, Nat.le_of_ble_eq_true rfl, rfl⟩ ?_
    refine R_miss hK hh (fun M1 V1 I hK1 hR1 hb1 => ?_)
    refine v_callr rfl ⟨Nat.le_of_ble_eq_true rfl, Nat.le_of_ble_eq_true rfl, rfl, Nat.le_of_ble_eq_true rfl, rfl⟩ ?_
    refine R_adds hO hK1 (by omega) hR1 (fun M2 V2 hK2 hO2 hb2 => ?_)
    refine v_ret rfl rfl ?_
    exact k M2 V2 I hK2 hO2 (KB_tr hb1 hb2)
/-- frames, nest, row, result have changed -/
theorem KS_ch {op' ne' rl' : Int} {M' : zM} (hK : KS t h a op_ ne rl V M) (h1 : ∀ b j, ¬ (93 ≤ b ∧ b ≤ 99) → (b = 77 → j ≠ 27 ∧ j ≠ 29 ∧ j ≠ 30 ∧ j ≠ 31) → M' b j = M b j) (e27 : M' 77 27 = op') (e29 : M' 77 29 = ne') (e30 : M' 77 30 = rl') : KS t h a op' ne' rl' V M' := by
  obtain ⟨⟨x1, x2⟩, ⟨p1, p2, -, -, -⟩, hg, r⟩ := hK
  have hx : ∀ b j, ¬ (93 ≤ b ∧ b ≤ 99) → b ≠ 77 → M' b j = M b j := fun b j hb h7 => h1 b j hb (fun e => absurd e h7)
  refine ⟨⟨⟨(h1 77 4 (by decide) (fun _ => by decide)).trans x1.1, x1.2.1, fun i hi => (hx 79 i (by decide) (by decide)).trans (x1.2.2 i hi)⟩, ⟨(h1 77 10 (by decide) (fun _ => by decide)).trans x2.1, x2.2.1, fun i hi => ?_⟩⟩, ⟨(h1 77 19 (by decide) (fun _ => by decide)).trans p1, (h1 77 28 (by decide) (fun _ => by decide)).trans p2, e27, e29, e30⟩, fun y y0 y1 => GN_fr (hg y y0 y1) (fun b b1 b2 => hx b y (by omega) (by omega)) (fun _ _ _ _ => rfl), r⟩
  rw [hx 81 i (by decide) (by decide), hx 82 i (by decide) (by decide), hx 83 i (by decide) (by decide), hx 84 i (by decide) (by decide)]
  exact x2.2.2 i hi
/-- what a piece of the parse may change: the frames from op on, the row from rl on -/
def KF (op rl : Int) (M M' : zM) : Prop := (∀ b j, b ≠ 77 → ¬ (85 ≤ b ∧ b ≤ 99) → M' b j = M b j) ∧ (∀ j, j ≠ 19 → ¬ (27 ≤ j ∧ j ≤ 31) → M' 77 j = M 77 j) ∧ (∀ b j, 93 ≤ b → b ≤ 96 → j < op → M' b j = M b j) ∧ ∀ j, j < rl → M' 97 j = M 97 j
theorem KF_rf {op rl : Int} {M : zM} : KF op rl M M := ⟨fun _ _ _ _ => rfl, fun _ _ _ => rfl, fun _ _ _ _ _ => rfl, fun _ _ => rfl⟩
theorem KF_tr {op rl op' rl' : Int} {M M1 M2 : zM} (h : KF op rl M M1) (h2 : KF op' rl' M1 M2) (ho : op ≤ op') (hr : rl ≤ rl') : KF op rl M M2 :=
  ⟨fun b j h3 h4 => (h2.1 b j h3 h4).trans (h.1 b j h3 h4), fun j h3 h4 => (h2.2.1 j h3 h4).trans (h.2.1 j h3 h4), fun b j h3 h4 h5 => (h2.2.2.1 b j h3 h4 (by omega)).trans (h.2.2.1 b j h3 h4 h5), fun j h3 => (h2.2.2.2 j (by omega)).trans (h.2.2.2 j h3)⟩
theorem KF_w {op rl op' rl' : Int} {M M1 : zM} (h : KF op' rl' M M1) (ho : op ≤ op') (hr : rl ≤ rl') : KF op rl M M1 := ⟨h.1, h.2.1, fun b j h3 h4 h5 => h.2.2.1 b j h3 h4 (by omega), fun j h3 => h.2.2.2 j (by omega)⟩
theorem KF_KB {op rl : Int} {M M' : zM} (h : KB M M') : KF op rl M M' := ⟨fun b j h1 h2 => h b j (by omega) (fun e => absurd e h1), fun j h1 h2 => h 77 j (by decide) (fun _ => ⟨h1, by omega⟩), fun b j h1 h2 _ => h b j (by omega) (fun e => absurd e (by omega)), fun j _ => h 97 j (by decide) (fun e => absurd e (by decide))⟩
/-- a frame more -/
def KP (f : Int) (M M' : zM) : Prop := ∀ b j, (b = 77 → j ≠ 27) → (93 ≤ b ∧ b ≤ 96 → j ≠ f) → M' b j = M b j
theorem KF_KP {op rl f : Int} {M M' : zM} (h : KP f M M') (ho : op ≤ f) : KF op rl M M' := ⟨fun b j h1 h2 => h b j (fun e => absurd e h1) (fun e => absurd e (by omega)), fun j h1 h2 => h 77 j (fun _ => by omega) (fun e => absurd e (by decide)), fun b j h1 h2 h3 => h b j (fun e => absurd e (by omega)) (fun _ => by omega), fun j _ => h 97 j (fun e => absurd e (by decide)) (fun e => absurd e (by decide))⟩
theorem R_pushes {kd mo : Int} (hK : KS t h a op_ ne rl V M) (ho : 0 ≤ op_ ∧ op_ < 100) (k : ∀ M', KS t h a (op_ + 1) ne rl V M' → (M' 93 op_ = kd ∧ M' 94 op_ = 0 ∧ M' 95 op_ = -1 ∧ M' 96 op_ = mo) → KP op_ M M' → Q none M') : v_call L d 192 [(2, 77), (0, kd), (0, mo)] M Q := by
  have hK' := hK
  obtain ⟨-, ⟨p1, p2, p3, p4, p5⟩, -, -⟩ := hK
  refine v_in ?_
  refine v_load rfl rfl ⟨rfl, Nat.le_of_ble_eq_true rfl⟩ ?_
  refine v_getp rfl rfl rfl ?_
  refine v_load rfl rfl ⟨rfl, Nat.le_of_ble_eq_true rfl⟩ ?_
  refine v_getx rfl rfl (p3) ?_
  refine v_load rfl rfl ⟨rfl, Nat.le_of_ble_eq_true rfl⟩ ?_
  refine v_ast9 rfl rfl (by decide) ⟨by omega, by show _ < (100 : Int); omega⟩ ?_
  refine v_load rfl rfl ⟨rfl, Nat.le_of_ble_eq_true rfl⟩ ?_
  refine v_getp rfl rfl rfl ?_
  refine v_load rfl rfl ⟨rfl, Nat.le_of_ble_eq_true rfl⟩ ?_
  refine v_getx rfl rfl (show _ = op_ by simp (disch := decide) only [u_n1, p3]) ?_
  refine v_push rfl ?_
  refine v_ast9 rfl rfl (by decide) ⟨by omega, by show _ < (100 : Int); omega⟩ ?_
  refine v_load rfl rfl ⟨rfl, Nat.le_of_ble_eq_true rfl⟩ ?_
  refine v_getp rfl rfl rfl ?_
  refine v_load rfl rfl ⟨rfl, Nat.le_of_ble_eq_true rfl⟩ ?_
  refine v_getx rfl rfl (show _ = op_ by simp (disch := decide) only [u_n1, p3]) ?_
  refine v_push rfl ?_
  refine v_ast9 rfl rfl (by decide) ⟨by omega, by show _ < (100 : Int); omega⟩ ?_
  refine v_load rfl rfl ⟨rfl, Nat.le_of_ble_eq_true rfl⟩ ?_
  refine v_getp rfl rfl rfl ?_
  refine v_load rfl rfl ⟨rfl, Nat.le_of_ble_eq_true rfl⟩ ?_
  refine v_getx rfl rfl (show _ = op_ by simp (disch := decide) only [u_n1, p3]) ?_
  refine v_load rfl rfl ⟨rfl, Nat.le_of_ble_eq_true rfl⟩ ?_
  refine v_ast9 rfl rfl (by decide) ⟨by omega, by show _ < (100 : Int); omega⟩ ?_
  refine v_load rfl rfl ⟨rfl, Nat.le_of_ble_eq_true rfl⟩ ?_
  refine v_load rfl rfl ⟨rfl, Nat.le_of_ble_eq_true rfl⟩ ?_
  refine v_getx rfl rfl (show _ = op_ by simp (disch := decide) only [u_n1, p3]) ?_
  refine v_push rfl ?_
  refine v_add rfl (by omega) ?_
  refine v_puti rfl rfl rfl ?_
  refine v_ret rfl rfl ?_
  have hP : KP op_ M (z_upd (z_upd (z_upd (z_upd (z_upd M 93 op_ kd) 94 op_ 0) 95 op_ (-1)) 96 op_ mo) 77 27 (op_ + 1)) := by
    intro b j h1 h2
    have h3 : ¬ (b = 77 ∧ j = 27) := fun z => h1 z.1 z.2
    simp only [z_upd]
    repeat' rw [if_neg (by omega)]
  refine k _ (KS_ch hK' (fun b j h1 h2 => hP b j (fun e => (h2 e).1) (fun e => absurd e (by omega))) u_eq ?_ ?_) ?_ hP
  · rw [hP 77 29 (fun _ => by decide) (fun e => absurd e (by decide))]; exact p4
  · rw [hP 77 30 (fun _ => by decide) (fun e => absurd e (by decide))]; exact p5
  · simp (disch := decide) only [u_n1, u_eq, and_self]
theorem R_goes {f st kd mo : Int} (hK : KS t h a (f + 1) ne rl V M) (ho : 0 ≤ f ∧ f < 99) (k : ∀ M', KS t h a (f + 1 + 1) ne rl V M' → (M' 93 (f + 1) = kd ∧ M' 94 (f + 1) = 0 ∧ M' 95 (f + 1) = -1 ∧ M' 96 (f + 1) = mo) → M' 94 f = st → (∀ b j, (b = 77 → j ≠ 27) → (93 ≤ b ∧ b ≤ 96 → j ≠ f + 1 ∧ (b = 94 → j ≠ f)) → M' b j = M b j) → Q none M') : v_call L (d + 1) 203 [(2, 77), (0, f), (0, st), (0, kd), (0, mo)] M Q := by
  have hK' := hK
  obtain ⟨-, ⟨p1, p2, p3, p4, p5⟩, -, -⟩ := hK
  have hK1 : KS t h a (f + 1) ne rl V (z_upd M 94 f st) := KS_ch hK' (fun b j h1 _ => u_n1 (by omega)) (by rw [u_n1 (by decide)]; exact p3) (by rw [u_n1 (by decide)]; exact p4) (by rw [u_n1 (by decide)]; exact p5)
  refine v_in ?_
  refine v_load rfl rfl ⟨rfl, Nat.le_of_ble_eq_true rfl⟩ ?_
  refine v_getp rfl rfl rfl ?_
  refine v_load rfl rfl ⟨rfl, Nat.le_of_ble_eq_true rfl⟩ ?_
  refine v_load rfl rfl ⟨rfl, Nat.le_of_ble_eq_true rfl⟩ ?_
  refine v_ast9 rfl rfl (by decide) ⟨by omega, by show _ < (100 : Int); omega⟩ ?_
  refine v_load rfl rfl ⟨rfl, Nat.le_of_ble_eq_true rfl⟩ ?_
  refine v_load rfl rfl ⟨rfl, Nat.le_of_ble_eq_true rfl⟩ ?_
  refine v_load rfl rfl ⟨rfl, Nat.le_of_ble_eq_true rfl⟩ ?_
  refine v_callr rfl ⟨Nat.le_of_ble_eq_true rfl, Nat.le_of_ble_eq_true rfl, rfl, Nat.le_of_ble_eq_true rfl, rfl⟩ ?_
  refine R_pushes hK1 ⟨by omega, by omega⟩ (fun M1 k1 k2 k3 => ?_)
  refine v_ret rfl rfl ?_
  refine k M1 k1 k2 ?_ ?_
  · rw [k3 94 f (fun e => absurd e (by decide)) (fun _ => by omega), u_eq]
  · intro b j h1 h2
    rw [k3 b j h1 (fun z => (h2 z).1)]
    by_cases e : b = 94
    · subst e; exact u_n2 ((h2 (by decide)).2 rfl)
    · exact u_n1 e
/-- a frame less -/
theorem R_ends {x : Int} (hK : KS t h a op_ ne rl V M) (ho : 0 ≤ op_ ∧ op_ ≤ 100) (k : ∀ M', KS t h a (op_ - 1) ne rl V M' → M' 77 31 = x → (∀ b j, (b = 77 → j ≠ 27 ∧ j ≠ 31) → M' b j = M b j) → Q none M') : v_call L d 193 [(2, 77), (0, x)] M Q := by
  have hK' := hK
  obtain ⟨-, ⟨p1, p2, p3, p4, p5⟩, -, -⟩ := hK
  refine v_in ?_
  refine v_load rfl rfl ⟨rfl, Nat.le_of_ble_eq_true rfl⟩ ?_
  refine v_load rfl rfl ⟨rfl, Nat.le_of_ble_eq_true rfl⟩ ?_
  refine v_puti rfl rfl rfl ?_
  refine v_load rfl rfl ⟨rfl, Nat.le_of_ble_eq_true rfl⟩ ?_
  refine v_load rfl rfl ⟨rfl, Nat.le_of_ble_eq_true rfl⟩ ?_
  refine v_getx rfl rfl (show _ = op_ by simp (disch := decide) only [u_n2, p3]) ?_
  refine v_push rfl ?_
  refine v_sub rfl (by omega) ?_
  refine v_puti rfl rfl rfl ?_
  refine v_ret rfl rfl ?_
  have hP : ∀ b j, (b = 77 → j ≠ 27 ∧ j ≠ 31) → z_upd (z_upd M 77 31 x) 77 27 (op_ - 1) b j = M b j := by
    intro b j h1
    have h3 : ¬ (b = 77 ∧ j = 27) := fun z => (h1 z.1).1 z.2
    have h4 : ¬ (b = 77 ∧ j = 31) := fun z => (h1 z.1).2 z.2
    simp only [z_upd]
    rw [if_neg h3, if_neg h4]
  refine k _ (KS_ch hK' (fun b j h1 h2 => hP b j (fun e => ⟨(h2 e).1, (h2 e).2.2.2⟩)) u_eq ?_ ?_) ?_ hP
  · rw [hP 77 29 (fun _ => by decide)]; exact p4
  · rw [hP 77 30 (fun _ => by decide)]; exact p5
  · rw [u_n2 (by decide), u_eq]
theorem R_endsNested {f x : Int} (hK : KS t h a op_ ne rl V M) (ho : 0 ≤ op_ ∧ op_ ≤ 100) (hf : 0 ≤ f ∧ f < 100) (hn : 0 ≤ ne ∧ ne ≤ 11) (hx : M 95 f = x) (k : ∀ M', KS t h a (op_ - 1) (ne - 1) rl V M' → M' 77 31 = x → (∀ b j, (b = 77 → j ≠ 27 ∧ j ≠ 29 ∧ j ≠ 31) → M' b j = M b j) → Q none M') : v_call L (d + 1) 205 [(2, 77), (0, f)] M Q := by
  have hK' := hK
  obtain ⟨-, ⟨p1, p2, p3, p4, p5⟩, -, -⟩ := hK
  have hK1 : KS t h a op_ (ne - 1) rl V (z_upd M 77 29 (ne - 1)) := KS_ch hK' (fun b j h1 h2 => by
    have h3 : ¬ (b = 77 ∧ j = 29) := fun z => (h2 z.1).2.1 z.2
    simp only [z_upd]
    rw [if_neg h3]) (by rw [u_n2 (by decide)]; exact p3) u_eq (by rw [u_n2 (by decide)]; exact p5)
  refine v_in ?_
  refine v_load rfl rfl ⟨rfl, Nat.le_of_ble_eq_true rfl⟩ ?_
  refine v_load rfl rfl ⟨rfl, Nat.le_of_ble_eq_true rfl⟩ ?_
  refine v_getx rfl rfl (p4) ?_
  refine v_push rfl ?_
  refine v_sub rfl (by omega) ?_
  refine v_puti rfl rfl rfl ?_
  refine v_load rfl rfl ⟨rfl, Nat.le_of_ble_eq_true rfl⟩ ?_
  refine v_load rfl rfl ⟨rfl, Nat.le_of_ble_eq_true rfl⟩ ?_
  refine v_getp rfl rfl rfl ?_
  refine v_load rfl rfl ⟨rfl, Nat.le_of_ble_eq_true rfl⟩ ?_
  refine v_ald9 rfl rfl ⟨by omega, by show _ < (100 : Int); omega⟩ ?_
  rw [u_n1 (show (95 : Int) ≠ 77 by decide), hx]
  refine v_callr rfl ⟨Nat.le_of_ble_eq_true rfl, Nat.le_of_ble_eq_true rfl, rfl, Nat.le_of_ble_eq_true rfl, rfl⟩ ?_
  refine R_ends hK1 ho (fun M1 k1 k2 k3 => ?_)
  refine v_ret rfl rfl ?_
  refine k M1 k1 k2 (fun b j h1 => ?_)
  rw [k3 b j (fun e => ⟨(h1 e).1, (h1 e).2.2⟩)]
  have h3 : ¬ (b = 77 ∧ j = 29) := fun z => (h1 z.1).2.1 z.2
  simp only [z_upd]
  rw [if_neg h3]
/-- a nested one begins -/
theorem R_beginsNested {f so : Int} (sg : Int) (hK : KS t h a op_ ne rl V M) (hf : 0 ≤ f ∧ f < 100) (hn : 0 ≤ ne ∧ ne ≤ 11) (hh : h + 1 < 1216) (ha : a < 999) (hl : isLf so = false ∧ so ≠ 17 ∧ so ≠ 4 ∧ so ≠ 0) (k : ∀ M' V' I, KS t (h + 2) (a + 1) op_ (ne + 1) rl V' M' → OPN h V V' h so a 0 ([] ++ [(h + 1, lfN 16 a 1 sg, I)]) (h + 2) → M' 95 f = h → (∀ b j, ¬ (85 ≤ b ∧ b ≤ 92) → (b = 77 → j ≠ 19 ∧ j ≠ 28 ∧ j ≠ 29) → (b = 95 → j ≠ f) → M' b j = M b j) → Q none M') : v_call L (d + 2) 204 [(2, 77), (0, f), (0, so)] M Q := by
  refine v_in ?_
  refine v_load rfl rfl ⟨rfl, Nat.le_of_ble_eq_true rfl⟩ ?_
  refine v_getp rfl rfl rfl ?_
  refine v_load rfl rfl ⟨rfl, Nat.le_of_ble_eq_true rfl⟩ ?_
  refine v_load rfl rfl ⟨rfl, Nat.le_of_ble_eq_true rfl⟩ ?_
  refine v_load rfl rfl ⟨rfl, Nat.le_of_ble_eq_true rfl⟩ ?_
  refine v_callr rfl ⟨Nat.le_of_ble_eq_true rfl, Nat.le_of_ble_eq_true rfl, rfl, Nat.le_of_ble_eq_true rfl, rfl⟩ ?_
  refine R_open a hK (by omega) ⟨hl.1, hl.2.1⟩ (fun _ => rfl) (fun M1 V1 hK1 hO1 hb1 => ?_)
  obtain ⟨-, ⟨p1, p2, p3, p4, p5⟩, -, -⟩ := id hK1
  have hK2 : KS t (h + 1) a op_ (ne + 1) rl V1 (z_upd (z_upd M1 95 f h) 77 29 (ne + 1)) := KS_ch hK1 (fun b j h1 h2 => by
    have h3 : ¬ (b = 77 ∧ j = 29) := fun z => (h2 z.1).2.1 z.2
    simp only [z_upd]
    rw [if_neg h3, if_neg (by omega)]) (by rw [u_n2 (by decide), u_n1 (by decide)]; exact p3) u_eq (by rw [u_n2 (by decide), u_n1 (by decide)]; exact p5)
  refine v_ast9 rfl rfl (by decide) ⟨by omega, by show _ < (100 : Int); omega⟩ ?_
  refine v_load rfl rfl ⟨rfl, Nat.le_of_ble_eq_true rfl⟩ ?_
  refine v_load rfl rfl ⟨rfl, Nat.le_of_ble_eq_true rfl⟩ ?_
  refine v_getx rfl rfl (show _ = ne by rw [u_n1 (by decide)]; exact p4) ?_
  refine v_push rfl ?_
  refine v_add rfl (by omega) ?_
  refine v_puti rfl rfl rfl ?_
  refine v_load rfl rfl ⟨rfl, Nat.le_of_ble_eq_true rfl⟩ ?_
  refine v_load rfl rfl ⟨rfl, Nat.le_of_ble_eq_true rfl⟩ ?_
  refine v_getp rfl rfl rfl ?_
  refine v_load rfl rfl ⟨rfl, Nat.le_of_ble_eq_true rfl⟩ ?_
  refine v_ald9 rfl rfl ⟨by omega, by show _ < (100 : Int); omega⟩ ?_
  rw [u_n1 (show (95 : Int) ≠ 77 by decide), u_eq]
  refine v_load rfl rfl ⟨rfl, Nat.le_of_ble_eq_true rfl⟩ ?_
  refine v_push rfl ?_
  refine v_callr rfl ⟨Nat.le_of_ble_eq_true rfl, Nat.le_of_ble_eq_true rfl, rfl, Nat.le_of_ble_eq_true rfl, rfl⟩ ?_
  refine R_leaf sg hK2 (by omega) ha rfl (fun M3 V3 I hK3 hR3 hb3 => ?_)
  refine v_callr rfl ⟨Nat.le_of_ble_eq_true rfl, Nat.le_of_ble_eq_true rfl, rfl, Nat.le_of_ble_eq_true rfl, rfl⟩ ?_
  refine R_adds hO1 hK3 (by omega) hR3 (fun M4 V4 hK4 hO4 hb4 => ?_)
  refine v_ret rfl rfl ?_
  rw [show h + 1 + 1 = h + 2 by omega] at hK4 hO4
  have h34 := KB_tr hb3 hb4
  refine k M4 V4 I hK4 hO4 ?_ ?_
  · rw [h34 95 f (by decide) (fun e => absurd e (by decide)), u_n1 (by decide), u_eq]
  · intro b j h1 h2 h3
    rw [h34 b j h1 (fun e => ⟨(h2 e).1, (h2 e).2.1⟩), ← hb1 b j h1 (fun e => ⟨(h2 e).1, (h2 e).2.1⟩)]
    have h5 : ¬ (b = 77 ∧ j = 29) := fun z => (h2 z.1).2.2 z.2
    have h6 : ¬ (b = 95 ∧ j = f) := fun z => h3 z.1 z.2
    simp only [z_upd]
    rw [if_neg h5, if_neg h6]
end RM
