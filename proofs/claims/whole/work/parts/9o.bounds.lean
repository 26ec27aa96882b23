/-! BOUNDS stay behind each act -/
section BD
variable {s : zA} {n : Nat}
theorem BS_up (h : BS s n) : BS s (n + 1) := by
  obtain ⟨h1, h2, h3, h4, h5, h6, h7, h8, h9, h10⟩ := h
  exact ⟨h1, h2, h3, h4, h5, h6, h7, h8, h9, by omega⟩
theorem BS_tp2 {tp : List Int} (h : BS s n) (hl : tp.length ≤ 300) (hb : z_by tp) : BS (tpS s tp) n := by
  obtain ⟨h1, h2, h3, h4, h5, h6, h7, h8, h9, h10⟩ := h
  exact ⟨h1, hl, h3, hb, h5, h6, h7, h8, h9, h10⟩
theorem paA_ok {Pa : List (List Int)} {t : List Int} (hp : Pa.length ≤ 12) (ha : ∀ x ∈ Pa, x.length ≤ 300 ∧ z_by x) (ht : t.length ≤ 300 ∧ z_by t) : (paA Pa t).length ≤ 12 ∧ ∀ x ∈ paA Pa t, x.length ≤ 300 ∧ z_by x := by
  unfold paA
  refine ⟨?_, fun x hx => ?_⟩
  · rw [List.length_append, List.length_singleton]
    split
    · rw [List.length_drop]; omega
    · omega
  · rcases List.mem_append.mp hx with h | h
    · split at h
      · exact ha x (List.mem_of_mem_drop h)
      · exact ha x h
    · rw [List.mem_singleton.mp h]; exact ht
theorem nil_ok : ∀ x ∈ ([] : List (List Int)), x.length ≤ 300 ∧ z_by x := fun x hx => absurd hx List.not_mem_nil
theorem BS_ed {t' : List Int} {a b : Int} (h : BS s n) (hl : t'.length ≤ 300) (hb : z_by t') : BS (edS s t' a b) (n + 1) := by
  obtain ⟨h1, h2, h3, h4, h5, h6, h7, h8, h9, h10⟩ := h
  have p := paA_ok (t := s.1.1) (by omega) h6 ⟨h1, h3⟩
  have k := kpN_rng s.1.1 t' a b
  have nl := nt_l (t := t') hl
  refine ⟨hl, h2, hb, h4, ?_, p.2, nil_ok, ?_, ?_, ?_⟩
  · show (paA s.2.1.1 s.1.1).length + 0 ≤ 12; omega
  · show 0 ≤ s.2.2.2.1 + kpN s.1.1 t' a b; omega
  · show s.2.2.2.1 + kpN s.1.1 t' a b ≤ s.2.2.2.2 + ((NT (toks t')).length : Int); omega
  · show s.2.2.2.2 + ((NT (toks t')).length : Int) ≤ 1300 * ((n + 1 : Nat) : Int); omega
theorem BS_feed {a b c d e : Int} (h : BS s n) : BS (feedS s a b c d e).1 (n + 1) := by
  unfold feedS
  split
  · rename_i hc
    refine BS_up (BS_tp2 h ?_ (z_by_app h.2.2.2.1 (z_by_app (z_by_app (z_by_app (z_by_app (by_four _) (by_four _)) (by_four _)) (by_four _)) (by_four _))))
    have f4 : ∀ x, (z_four x).length = 4 := fun _ => rfl
    simp only [List.length_append, f4]
    omega
  · exact BS_up h
theorem BS_load {m : Int} (h : BS s n) : BS (loadS s m).1 (n + 1) := by
  unfold loadS
  split
  · rename_i hc
    obtain ⟨h1, h2, h3, h4, h5, h6, h7, h8, h9, h10⟩ := h
    have p := paA_ok (t := s.1.1) (by omega) h6 ⟨h1, h3⟩
    refine ⟨?_, by show (0 : Nat) ≤ 300; omega, z_by_take h4, fun x hx => absurd hx List.not_mem_nil, ?_, p.2, nil_ok, Int.le_refl _, Int.le_refl _, ?_⟩
    · show (s.1.2.take m.toNat).length ≤ 300
      rw [List.length_take]; omega
    · show (paA s.2.1.1 s.1.1).length + 0 ≤ 12; omega
    · show (0 : Int) ≤ 1300 * ((n + 1 : Nat) : Int); omega
  · exact BS_up h
theorem BS_undo (h : BS s n) : BS (undoS s).1 (n + 1) := by
  unfold undoS
  split
  · exact BS_up h
  · rename_i hc
    obtain ⟨h1, h2, h3, h4, h5, h6, h7, h8, h9, h10⟩ := h
    have hm : s.2.1.1.getD (s.2.1.1.length - 1) [] ∈ s.2.1.1 := by
      rw [List.getD_eq_getElem?_getD, List.getElem?_eq_getElem (by omega)]; exact List.getElem_mem _
    refine ⟨(h6 _ hm).1, h2, (h6 _ hm).2, h4, ?_, fun x hx => h6 x (List.mem_of_mem_take hx), fun x hx => ?_, h8, h9, ?_⟩
    · show (s.2.1.1.take (s.2.1.1.length - 1)).length + (s.1.1 :: s.2.1.2).length ≤ 12
      rw [List.length_take, List.length_cons]; omega
    · rcases List.mem_cons.mp hx with e | e
      · rw [e]; exact ⟨h1, h3⟩
      · exact h7 x e
    · show s.2.2.2.2 ≤ 1300 * ((n + 1 : Nat) : Int); omega
theorem BS_redo (h : BS s n) : BS (redoS s).1 (n + 1) := by
  unfold redoS
  split
  · exact BS_up h
  · rename_i hc
    obtain ⟨h1, h2, h3, h4, h5, h6, h7, h8, h9, h10⟩ := h
    have hm : s.2.1.2.getD 0 [] ∈ s.2.1.2 := by
      rw [List.getD_eq_getElem?_getD, List.getElem?_eq_getElem (by omega)]; exact List.getElem_mem _
    refine ⟨(h7 _ hm).1, h2, (h7 _ hm).2, h4, ?_, fun x hx => ?_, fun x hx => h7 x (List.mem_of_mem_drop hx), h8, h9, ?_⟩
    · show (s.2.1.1 ++ [s.1.1]).length + (s.2.1.2.drop 1).length ≤ 12
      rw [List.length_append, List.length_drop, List.length_singleton]; omega
    · rcases List.mem_append.mp hx with e | e
      · exact h6 x e
      · rw [List.mem_singleton.mp e]; exact ⟨h1, h3⟩
    · show s.2.2.2.2 ≤ 1300 * ((n + 1 : Nat) : Int); omega
theorem BS_fit {fr : List Int} {a b : Int} (h : BS s n) (hf : z_by fr) : BS (fitS s fr a b).1 (n + 1) := by
  unfold fitS
  split
  · rename_i hc; exact BS_ed h (by omega) (edT_by h.2.2.1 hf)
  · exact BS_up h
theorem BS_drop {i : Int} (h : BS s n) : BS (dropS s i).1 (n + 1) := by
  unfold dropS
  split
  · have p1 := pF_rng s.1.1 i
    have p2 := pE_rng s.1.1 i
    have p3 := pF_pE (t := s.1.1) i
    have e := edT_len (t := s.1.1) (fr := []) (a := pF s.1.1 i) (b := pE s.1.1 i) ⟨p1.1, p3, p2.2⟩
    have hl := h.1
    have e0 : (([] : List Int).length : Int) = 0 := rfl
    exact BS_ed h (by omega) (edT_by h.2.2.1 (fun x hx => absurd hx List.not_mem_nil))
  · exact BS_up h
theorem BS_edit {a b m : Int} (h : BS s n) : BS (editS s a b m).1 (n + 1) := by
  unfold editS
  split
  · rename_i hc
    split
    · rename_i hc2
      have e := edT_len (t := s.1.1) (fr := s.1.2.take m.toNat) (a := a) (b := b) ⟨hc.1, hc.2.1, hc.2.2.1⟩
      have e2 : ((s.1.2.take m.toNat).length : Int) = m := by rw [List.length_take]; omega
      exact BS_ed (BS_tp2 h (Nat.zero_le _) (fun x hx => absurd hx List.not_mem_nil)) (by omega) (edT_by h.2.2.1 (z_by_take h.2.2.2.1))
    · exact BS_up h
  · exact BS_up h
theorem BS_wrap {i : Int} (h : BS s n) : BS (wrapS s i).1 (n + 1) := by
  unfold wrapS
  split
  · exact BS_fit h (z_by_app (z_by_app (by_1 (by decide)) (z_by_sub h.2.2.1)) (by_1 (by decide)))
  · exact BS_up h
theorem BS_copy {i j : Int} (h : BS s n) : BS (copyS s i j).1 (n + 1) := by
  unfold copyS
  split
  · exact BS_fit h (z_by_sub h.2.2.1)
  · exact BS_up h
theorem BS_swp {i j : Int} (h : BS s n) (hi : itm (nd (NT (toks s.1.1)) i).1 = true) (hj : itm (nd (NT (toks s.1.1)) j).1 = true) (hij : i < j) : BS (swp s i j).1 (n + 1) := by
  unfold swp
  split
  · exact BS_up h
  · rename_i hc
    have t1 := itm_tk hi
    have t2 := itm_tk hj
    have p1 := pF_rng s.1.1 i
    have p2 := pE_rng s.1.1 j
    have p3 := pF_pE (t := s.1.1) i
    have p4 := pF_pE (t := s.1.1) j
    have p5 := pE_pF (t := s.1.1) (i := i) (j := j) t1.1 t2.2.1 ⟨hij, by omega⟩
    have e1 := swF_len (t := s.1.1) ⟨p1.1, p3, p5, p4, p2.2⟩
    have e2 := edT_len (t := s.1.1) (fr := swF s.1.1 (pF s.1.1 i) (pE s.1.1 i) (pF s.1.1 j) (pE s.1.1 j)) (a := pF s.1.1 i) (b := pE s.1.1 j) ⟨p1.1, by omega, p2.2⟩
    have hl := h.1
    exact BS_ed h (by omega) (edT_by h.2.2.1 (z_by_app (z_by_app (z_by_sub h.2.2.1) (z_by_sub h.2.2.1)) (z_by_sub h.2.2.1)))
theorem BS_swap {i j : Int} (h : BS s n) : BS (swapS s i j).1 (n + 1) := by
  unfold swapS
  split
  · rename_i hc
    split
    · rename_i hc2; exact BS_swp h hc.1 hc.2.1 hc2
    · rename_i hc2; exact BS_swp h hc.2.1 hc.1 (by have := hc.2.2; omega)
  · exact BS_up h
theorem BS_unwrap {i : Int} (h : BS s n) : BS (unwrapS s i).1 (n + 1) := by
  unfold unwrapS
  split
  · rename_i hc
    have p1 := pF_rng s.1.1 i
    have p2 := pE_rng s.1.1 i
    have p3 := pF_pE (t := s.1.1) i
    have hcl : 0 ≤ clo s.1.1 i := by unfold clo; split <;> omega
    have e1 := sub_le (t := s.1.1) (a := pF s.1.1 i + 1) (b := pE s.1.1 i - clo s.1.1 i) (x := pF s.1.1 i) (y := pE s.1.1 i) ⟨by omega, by omega, p3, by omega, by omega⟩
    have e2 := edT_len (t := s.1.1) (fr := sub s.1.1 (pF s.1.1 i + 1) (pE s.1.1 i - clo s.1.1 i)) (a := pF s.1.1 i) (b := pE s.1.1 i) ⟨p1.1, p3, p2.2⟩
    have hl := h.1
    exact BS_ed h (by omega) (edT_by h.2.2.1 (z_by_sub h.2.2.1))
  · exact BS_up h
theorem BS_mend (h : BS s n) : BS (mendS s).1 (n + 1) := by
  unfold mendS
  split
  · exact BS_up h
  · split
    · rename_i hc; exact BS_ed h (by omega) (mgT_by h.2.2.1 (mnL_by _))
    · exact BS_up h
theorem BS_rename {i m : Int} (h : BS s n) : BS (renameS s i m).1 (n + 1) := by
  unfold renameS
  split
  · split
    · rename_i hc
      split
      · exact BS_up h
      · exact BS_ed (BS_tp2 h (Nat.zero_le _) (fun x hx => absurd hx List.not_mem_nil)) (by omega) (mgT_by h.2.2.1 (TL_by (z_by_take h.2.2.2.1)))
    · exact BS_up h
  · exact BS_up h
end BD
