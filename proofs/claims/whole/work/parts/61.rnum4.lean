theorem bmx_fr {q : zQ} {s k tn fr fr' : Int} (h : 0 < tn → fr = fr') : bmx q s k tn fr = bmx q s k tn fr' := by
  unfold bmx
  by_cases e : 0 < tn
  · rw [h e]
  · simp only [e, if_false]
theorem bmq_fr {A : List zQ} {p : Nat} {s k tn fr fr' : Int} (h : 0 < tn → fr = fr') : bmq A p s k tn fr = bmq A p s k tn fr' := by
  unfold bmq
  rw [bmx_fr h]
/-- a row of nodes is counted at its parent -/
def ACC (L d : Nat) (Q : Option zV → zM → Prop) (ts : List (List zN)) (tn fr : Int) : Prop := ∀ (M : zM) (A B : List zQ) (p : Nat) (dp : Int) (w : zV), p < A.length → RM (A ++ (lay (p : Int) dp (A.length : Int) ts.flatten).map p0 ++ B) M → 0 ≤ (A.getD p n0).2.2.1 → (A.getD p n0).2.2.1 + (ts.flatten.length : Int) ≤ 5000 → 0 ≤ (A.getD p n0).2.2.2.1 → (A.getD p n0).2.2.2.1 + (ts.flatten.length : Int) ≤ 5000 → 0 ≤ (A.getD p n0).2.2.2.2.2.2.1 → (A.getD p n0).2.2.2.2.2.2.1 + tn ≤ 5000 →
    (∀ M' w', RM (bmq A p (ts.flatten.length : Int) (ts.length : Int) tn fr ++ (lay (p : Int) dp (A.length : Int) ts.flatten).map p1 ++ B) M' → oA M M' → v_wp L d 218 81 [(2, 77), (0, (A.length : Int) - 1), w'] [] M' Q) →
    v_wp L d 218 81 [(2, 77), (0, ((A.length + ts.flatten.length : Nat) : Int) - 1), w] [] M Q
section RNX
variable {L d : Nat} {Q : Option zV → zM → Prop} {T : List zT}
theorem acc_nil {fr : Int} : ACC L d Q [] 0 fr := by
  intro M A B p dp w hp hR _ _ _ _ _ _ k
  have := k M w (by
    show RM (bmq A p 0 0 0 fr ++ _ ++ B) M
    rw [bmq_zero hp]
    rw [show ([] : List (List zN)).flatten = [] from rfl, lay_nil] at hR ⊢
    exact hR) oA_rf
  exact this
theorem acc_cons {so a m b sg tn0 : Int} {cs ts : List (List zN)} (hwc : wfF cs) (hwt : wfF ts) (ham : a ≤ m) (hmb : m ≤ b) (hb : b - a ≤ 1000 ∧ 0 ≤ tn0 ∧ tn0 ≤ m - a) (hx : ∀ p dp : Int, bmx (p0 (so, p, (cs.length : Int), (cs.flatten.length : Int) + 1, dp, a, m - a, sg)) (cs.flatten.length : Int) (cs.length : Int) tn0 a = p1 (so, p, (cs.length : Int), (cs.flatten.length : Int) + 1, dp, a, m - a, sg)) (hlf : 0 < tn0 → isLf so = false) (i1 : ACC L d Q cs tn0 a) (i2 : ACC L d Q ts (b - m) m) : ACC L d Q (mkN so a m sg cs :: ts) (b - a) a := by
  intro M A B p dp w hp hR b1 b2 b3 b4 b5 b6 k
  have ela := lay_cons (p : Int) dp (A.length : Int) so a m sg cs ts
  have lc := lay_len hwc (A.length : Int) (dp + 1) ((A.length : Int) + 1)
  have hfl : ((mkN so a m sg cs :: ts).flatten).length = cs.flatten.length + ts.flatten.length + 1 := by rw [List.flatten_cons, List.length_append, mkN_len]; omega
  have hwl := wf_len hwt
  have hwlc := wf_len hwc
  have hxx := hx (p : Int) dp
  rw [hfl] at b2 b4
  rw [hfl, ela] at k
  rw [ela, List.map_cons, List.map_append] at hR
  have htm : tkM (so, (p : Int), (cs.length : Int), (cs.flatten.length : Int) + 1, dp, a, m - a, sg) + tn0 ≤ 1001 ∧ 0 ≤ tkM (so, (p : Int), (cs.length : Int), (cs.flatten.length : Int) + 1, dp, a, m - a, sg) := by
    unfold tkM
    split <;> omega
  generalize hxe : ((so, (p : Int), (cs.length : Int), (cs.flatten.length : Int) + 1, dp, a, m - a, sg) : zQ) = x at hR k hxx htm
  generalize hC : lay (A.length : Int) (dp + 1) ((A.length : Int) + 1) cs.flatten = C at hR k lc
  have l2 : (A ++ [p0 x] ++ C.map p0).length = A.length + cs.flatten.length + 1 := by
    rw [List.length_append, List.length_append, List.length_map, lc]; simp; omega
  have g2 : (A ++ [p0 x] ++ C.map p0).getD p n0 = A.getD p n0 := by rw [List.append_assoc, qd_app1 hp]
  have i2' := i2 M (A ++ [p0 x] ++ C.map p0) B p dp w (by rw [l2]; omega) (by
    rw [l2, show ((A.length + cs.flatten.length + 1 : Nat) : Int) = (A.length : Int) + 1 + (cs.flatten.length : Int) by omega]
    simpa using hR) (by rw [g2]; exact b1) (by rw [g2]; omega) (by rw [g2]; exact b3) (by rw [g2]; omega) (by rw [g2]; exact b5) (by rw [g2]; omega)
  rw [l2] at i2'
  rw [hfl, show A.length + (cs.flatten.length + ts.flatten.length + 1) = A.length + cs.flatten.length + 1 + ts.flatten.length by omega]
  refine i2' ?_
  intro M1 w1 hR1 ho1
  rw [List.append_assoc A, bmq_app hp, show ((A.length + cs.flatten.length + 1 : Nat) : Int) = (A.length : Int) + 1 + (cs.flatten.length : Int) by omega] at hR1
  generalize hD : lay (p : Int) dp ((A.length : Int) + 1 + (cs.flatten.length : Int)) ts.flatten = D at hR1 k
  generalize hE : bmq A p (ts.flatten.length : Int) (ts.length : Int) (b - m) m = E at hR1
  have lE : E.length = A.length := by rw [← hE, bmq_len]
  have l3 : (E ++ [p0 x]).length = A.length + 1 := by rw [List.length_append, lE]; rfl
  have g3 : (E ++ [p0 x]).getD A.length n0 = p0 x := by
    rw [qd_app2 (by omega), lE, Nat.sub_self]; rfl
  have e3 : (p0 x).2.2.1 = 0 ∧ (p0 x).2.2.2.1 = 1 ∧ (p0 x).2.2.2.2.2.2.1 = tkM x := ⟨rfl, rfl, rfl⟩
  have i1' := i1 M1 (E ++ [p0 x]) (D.map p1 ++ B) A.length (dp + 1) w1 (by rw [l3]; omega) (by
    rw [l3, show ((A.length + 1 : Nat) : Int) = (A.length : Int) + 1 by omega, hC]
    simpa using hR1) (by rw [g3, e3.1]; decide) (by rw [g3, e3.1]; omega) (by rw [g3, e3.2.1]; decide) (by rw [g3, e3.2.1]; omega) (by rw [g3, e3.2.2]; omega) (by rw [g3, e3.2.2]; omega)
  rw [l3] at i1'
  rw [show ((A.length + cs.flatten.length + 1 : Nat) : Int) = ((A.length + 1 + cs.flatten.length : Nat) : Int) by omega]
  refine i1' ?_
  intro M2 w2 hR2 ho2
  have e4 : bmq (E ++ [p0 x]) A.length (cs.flatten.length : Int) (cs.length : Int) tn0 a = E ++ [p1 x] := by
    have := bmq_last (A := E) (q := p0 x) (s := (cs.flatten.length : Int)) (k := (cs.length : Int)) (tn := tn0) (fr := a)
    rw [lE] at this
    rw [this, hxx]
  rw [e4, show ((A.length + 1 : Nat) : Int) = (A.length : Int) + 1 by omega, hC, List.append_assoc, List.append_assoc, List.singleton_append] at hR2
  have hpE : p < E.length := by omega
  have gE := bmq_at (A := A) (p := p) (i := p) (s := (ts.flatten.length : Int)) (k := (ts.length : Int)) (tn := b - m) (fr := m) hp
  rw [if_pos rfl, hE] at gE
  have gE1 : (E.getD p n0).2.2.1 = (A.getD p n0).2.2.1 + (ts.length : Int) := by rw [gE]; rfl
  have gE2 : (E.getD p n0).2.2.2.1 = (A.getD p n0).2.2.2.1 + (ts.flatten.length : Int) := by rw [gE]; rfl
  have gE3 : (E.getD p n0).2.2.2.2.2.2.1 = (A.getD p n0).2.2.2.2.2.2.1 + (b - m) := by rw [gE]; rfl
  have x1 : (p1 x).2.1 = (p : Int) := by rw [← hxe]; rfl
  have x4 : (p1 x).2.2.2.1 = (cs.flatten.length : Int) + 1 := by rw [← hxe]; rfl
  have x7 : (p1 x).2.2.2.2.2.2.1 = m - a := by rw [← hxe]; rfl
  have x6 : 0 < m - a → (p1 x).2.2.2.2.2.1 = a := by
    intro z
    rw [← hxe]
    show (if 0 < m - a then a else -1) = a
    rw [if_pos z]
  have := acc_one (L := L) (d := d) (Q := Q) (w := w2) hpE hR2 x1 ⟨by omega, by omega⟩ ⟨by omega, by omega⟩ ⟨by omega, by omega⟩ ⟨by omega, by omega⟩ ⟨by omega, by omega⟩ (fun M3 w3 hR3 ho3 => ?_)
  · rw [lE] at this
    rw [show ((A.length + 1 : Nat) : Int) - 1 = (A.length : Int) by omega]
    exact this
  · rw [lE]
    refine k M3 w3 ?_ (oA_tr ho1 (oA_tr ho2 ho3))
    rw [x4, x7, bmq_fr x6, ← hE, bmq_bmq hp (by omega) (by omega) (fun z => by omega)] at hR3
    rw [show (ts.flatten.length : Int) + ((cs.flatten.length : Int) + 1) = ((cs.flatten.length + ts.flatten.length + 1 : Nat) : Int) by omega, show (ts.length : Int) + 1 = (((mkN so a m sg cs :: ts).length : Nat) : Int) by simp, show b - m + (m - a) = b - a by omega] at hR3
    simpa using hR3
theorem acc_cv {a b : Int} {ts : List (List zN)} (hc : cv T a ts b) : b - a ≤ 1000 → ACC L d Q ts (b - a) a := by
  refine cv_ind (C := fun a ts b => b - a ≤ 1000 → ACC L d Q ts (b - a) a) hc ?_ ?_ ?_ ?_
  · intro a _
    rw [Int.sub_self]
    exact acc_nil
  · intro a so sg ts b hl hct ih hb
    have hle := cv_le hct
    have hlf := lfs_lf hl
    have h17 : so ≠ 17 := fun z => by rw [z] at hlf; exact absurd hlf (by decide)
    refine acc_cons (m := a + 1) (tn0 := 0) wf_nil (cv_wf hct) (by omega) hle (by omega) ?_ (by omega) acc_nil (ih (by omega))
    intro p dp
    unfold bmx p0 p1 tkF tkM sgF
    simp [hlf, h17, show a + 1 - a = 1 by omega]
  · intro a sg ts b hs hct ih hb
    have hle := cv_le hct
    have e : lfN 17 a 0 sg = mkN 17 a a sg [] := by unfold lfN; rw [Int.add_zero]
    rw [e]
    refine acc_cons (m := a) (tn0 := 0) wf_nil (cv_wf hct) (by omega) hle (by omega) ?_ (by omega) acc_nil (ih (by omega))
    intro p dp
    unfold bmx p0 p1 tkF tkM sgF
    simp [show isLf 17 = false from rfl]
  · intro a m so cs ts b hne hsh hc1 hc2 i1 i2 hb
    have hl1 := cv_le hc1
    have hl2 := cv_le hc2
    obtain ⟨s1, s2, s3⟩ := shp_nl hsh
    refine acc_cons (m := m) (tn0 := m - a) (cv_wf hc1) (cv_wf hc2) hl1 hl2 (by omega) ?_ (fun _ => s1) (i1 (by omega)) (i2 (by omega))
    intro p dp
    unfold bmx p0 p1 tkF tkM sgF
    simp [s1, s2]
    omega
end RNX
