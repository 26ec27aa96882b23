/-! THE LAW'S CODE stands for the real instructions -/
theorem all_step {α : Type} {f : α → Bool} {l : List α} (k n : Nat) (h1 : ((l.drop k).take n).all f = true) (h2 : (l.drop (k + n)).all f = true) : (l.drop k).all f = true := by
  rw [← List.take_append_drop n (l.drop k), List.all_append, Bool.and_eq_true, List.drop_drop]
  exact ⟨h1, h2⟩
theorem zl_0 : ((zc_311.drop 0).take 48).all (fun q => z_opok z_mi z_NM "KeptTreeLaw" false (some .boolean) code q.1 q.2) = true := by decide +kernel
theorem zl_48 : ((zc_311.drop 48).take 48).all (fun q => z_opok z_mi z_NM "KeptTreeLaw" false (some .boolean) code q.1 q.2) = true := by decide +kernel
theorem zl_96 : ((zc_311.drop 96).take 48).all (fun q => z_opok z_mi z_NM "KeptTreeLaw" false (some .boolean) code q.1 q.2) = true := by decide +kernel
theorem zl_144 : ((zc_311.drop 144).take 48).all (fun q => z_opok z_mi z_NM "KeptTreeLaw" false (some .boolean) code q.1 q.2) = true := by decide +kernel
theorem zl_192 : ((zc_311.drop 192).take 48).all (fun q => z_opok z_mi z_NM "KeptTreeLaw" false (some .boolean) code q.1 q.2) = true := by decide +kernel
theorem zl_240 : ((zc_311.drop 240).take 48).all (fun q => z_opok z_mi z_NM "KeptTreeLaw" false (some .boolean) code q.1 q.2) = true := by decide +kernel
theorem zl_288 : ((zc_311.drop 288).take 48).all (fun q => z_opok z_mi z_NM "KeptTreeLaw" false (some .boolean) code q.1 q.2) = true := by decide +kernel
theorem zl_336 : ((zc_311.drop 336).take 48).all (fun q => z_opok z_mi z_NM "KeptTreeLaw" false (some .boolean) code q.1 q.2) = true := by decide +kernel
theorem zl_384 : ((zc_311.drop 384).take 48).all (fun q => z_opok z_mi z_NM "KeptTreeLaw" false (some .boolean) code q.1 q.2) = true := by decide +kernel
theorem zl_432 : ((zc_311.drop 432).take 48).all (fun q => z_opok z_mi z_NM "KeptTreeLaw" false (some .boolean) code q.1 q.2) = true := by decide +kernel
theorem zl_480 : ((zc_311.drop 480).take 48).all (fun q => z_opok z_mi z_NM "KeptTreeLaw" false (some .boolean) code q.1 q.2) = true := by decide +kernel
theorem zl_528 : ((zc_311.drop 528).take 48).all (fun q => z_opok z_mi z_NM "KeptTreeLaw" false (some .boolean) code q.1 q.2) = true := by decide +kernel
theorem zl_576 : ((zc_311.drop 576).take 48).all (fun q => z_opok z_mi z_NM "KeptTreeLaw" false (some .boolean) code q.1 q.2) = true := by decide +kernel
theorem zl_624 : ((zc_311.drop 624).take 48).all (fun q => z_opok z_mi z_NM "KeptTreeLaw" false (some .boolean) code q.1 q.2) = true := by decide +kernel
theorem zl_672 : ((zc_311.drop 672).take 48).all (fun q => z_opok z_mi z_NM "KeptTreeLaw" false (some .boolean) code q.1 q.2) = true := by decide +kernel
theorem zl_720 : ((zc_311.drop 720).take 48).all (fun q => z_opok z_mi z_NM "KeptTreeLaw" false (some .boolean) code q.1 q.2) = true := by decide +kernel
theorem zl_768 : ((zc_311.drop 768).take 48).all (fun q => z_opok z_mi z_NM "KeptTreeLaw" false (some .boolean) code q.1 q.2) = true := by decide +kernel
theorem zl_816 : ((zc_311.drop 816).take 48).all (fun q => z_opok z_mi z_NM "KeptTreeLaw" false (some .boolean) code q.1 q.2) = true := by decide +kernel
theorem zl_864 : ((zc_311.drop 864).take 48).all (fun q => z_opok z_mi z_NM "KeptTreeLaw" false (some .boolean) code q.1 q.2) = true := by decide +kernel
theorem zl_len : zc_311.length ≤ 912 := by decide +kernel
theorem zk_311 : zc_311.all (fun q => z_opok z_mi z_NM "KeptTreeLaw" false (some .boolean) code q.1 q.2) = true := by
  have h912 : (zc_311.drop 912).all (fun q => z_opok z_mi z_NM "KeptTreeLaw" false (some .boolean) code q.1 q.2) = true := by rw [List.drop_eq_nil_of_le zl_len]; rfl
  have h864 : (zc_311.drop 864).all (fun q => z_opok z_mi z_NM "KeptTreeLaw" false (some .boolean) code q.1 q.2) = true := all_step 864 48 zl_864 h912
  have h816 : (zc_311.drop 816).all (fun q => z_opok z_mi z_NM "KeptTreeLaw" false (some .boolean) code q.1 q.2) = true := all_step 816 48 zl_816 h864
  have h768 : (zc_311.drop 768).all (fun q => z_opok z_mi z_NM "KeptTreeLaw" false (some .boolean) code q.1 q.2) = true := all_step 768 48 zl_768 h816
  have h720 : (zc_311.drop 720).all (fun q => z_opok z_mi z_NM "KeptTreeLaw" false (some .boolean) code q.1 q.2) = true := all_step 720 48 zl_720 h768
  have h672 : (zc_311.drop 672).all (fun q => z_opok z_mi z_NM "KeptTreeLaw" false (some .boolean) code q.1 q.2) = true := all_step 672 48 zl_672 h720
  have h624 : (zc_311.drop 624).all (fun q => z_opok z_mi z_NM "KeptTreeLaw" false (some .boolean) code q.1 q.2) = true := all_step 624 48 zl_624 h672
  have h576 : (zc_311.drop 576).all (fun q => z_opok z_mi z_NM "KeptTreeLaw" false (some .boolean) code q.1 q.2) = true := all_step 576 48 zl_576 h624
  have h528 : (zc_311.drop 528).all (fun q => z_opok z_mi z_NM "KeptTreeLaw" false (some .boolean) code q.1 q.2) = true := all_step 528 48 zl_528 h576
  have h480 : (zc_311.drop 480).all (fun q => z_opok z_mi z_NM "KeptTreeLaw" false (some .boolean) code q.1 q.2) = true := all_step 480 48 zl_480 h528
  have h432 : (zc_311.drop 432).all (fun q => z_opok z_mi z_NM "KeptTreeLaw" false (some .boolean) code q.1 q.2) = true := all_step 432 48 zl_432 h480
  have h384 : (zc_311.drop 384).all (fun q => z_opok z_mi z_NM "KeptTreeLaw" false (some .boolean) code q.1 q.2) = true := all_step 384 48 zl_384 h432
  have h336 : (zc_311.drop 336).all (fun q => z_opok z_mi z_NM "KeptTreeLaw" false (some .boolean) code q.1 q.2) = true := all_step 336 48 zl_336 h384
  have h288 : (zc_311.drop 288).all (fun q => z_opok z_mi z_NM "KeptTreeLaw" false (some .boolean) code q.1 q.2) = true := all_step 288 48 zl_288 h336
  have h240 : (zc_311.drop 240).all (fun q => z_opok z_mi z_NM "KeptTreeLaw" false (some .boolean) code q.1 q.2) = true := all_step 240 48 zl_240 h288
  have h192 : (zc_311.drop 192).all (fun q => z_opok z_mi z_NM "KeptTreeLaw" false (some .boolean) code q.1 q.2) = true := all_step 192 48 zl_192 h240
  have h144 : (zc_311.drop 144).all (fun q => z_opok z_mi z_NM "KeptTreeLaw" false (some .boolean) code q.1 q.2) = true := all_step 144 48 zl_144 h192
  have h96 : (zc_311.drop 96).all (fun q => z_opok z_mi z_NM "KeptTreeLaw" false (some .boolean) code q.1 q.2) = true := all_step 96 48 zl_96 h144
  have h48 : (zc_311.drop 48).all (fun q => z_opok z_mi z_NM "KeptTreeLaw" false (some .boolean) code q.1 q.2) = true := all_step 48 48 zl_48 h96
  have h0 : (zc_311.drop 0).all (fun q => z_opok z_mi z_NM "KeptTreeLaw" false (some .boolean) code q.1 q.2) = true := all_step 0 48 zl_0 h48
  exact h0
theorem z_op311 : ∀ pc, z_opok z_mi z_NM "KeptTreeLaw" false (some .boolean) code pc (z_cd 311 pc) = true := z_lk zc_311 zk_311
