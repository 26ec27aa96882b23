/-! STRINGS: length() and charAt() of the class's three words, by contract over the JDK's own code -/
def ySl : MethodName := ⟨"java/lang/String", "length", "()I"⟩
def ySc : MethodName := ⟨"java/lang/String", "coder", "()B"⟩
def ySa : MethodName := ⟨"java/lang/String", "charAt", "(I)C"⟩
def ySi : MethodName := ⟨"java/lang/String", "isLatin1", "()Z"⟩
def yLa : MethodName := ⟨"java/lang/StringLatin1", "charAt", "([BI)C"⟩
def ySk : MethodName := ⟨"java/lang/String", "checkIndex", "(II)V"⟩
def yPk : MethodName := ⟨"jdk/internal/util/Preconditions", "checkIndex", "(IILjava/util/function/BiFunction;)I"⟩
def z_Ps (ad : Int → Option Nat) (B : Nat) (vs : List Value) : Array Value → State → Prop := va_Pc vs (fun U => B ≤ U.heap.size ∧ z_E ad B U U.heap)
theorem z_Ps_blind {ad : Int → Option Nat} {B : Nat} {vs : List Value} : FrameBlind (z_Ps ad B vs) := by
  intro a U g mk h
  obtain ⟨h0, h1, h2⟩ := h
  exact ⟨h0, h1, z_E_moved (u := U) (U := U.calling g mk a) (Vm.Alike.refl U.vm) h2⟩
theorem z_goodIn {y : MethodName} {cc : ByteArray} {mL : Nat} {ret : Option FieldType} (h : Cond.code y cc mL ret ∈ z_T) : GoodIn z_T (Cond.code y cc mL ret :: z_T) := by
  intro w hw
  have hm : w ∈ z_T := by
    rcases List.mem_cons.mp hw with e | e
    · rw [e]; exact h
    · exact e
  exact ⟨hm, good_of_word (z_goodT hm)⟩
def z_rs (f : Nat) : Room := { frames := f, cells := 0, slots := 0, locals := 40 * f }
def z_QV : Array Value → State → Outcome → State → Prop := fun _ st o t => o = .returned none ∧ t.heap = st.heap
section ST
variable {l : Launch} {ad : Int → Option Nat} {B : Nat}
theorem c_Preck {i n : Int32} {v : Value} (h0 : ¬ i < 0) (hn : i < n) (hv : v = .null ∨ ∃ a, v = .ref a) : Met l yPk (.code yPk prog_15_method_11_code 3 (some .int) :: z_T) (z_rs 0) (z_Ps ad B [.int i, .int n, v]) (QcRead i) 0 0 (fun _ => False) := by
  refine Met.ofW (cc := prog_15_method_11_code) (maxL := 3) (ret := some .int) (by decide) rfl ?_
  intro p e s m args below meth c s₁ Bd hml hP
  obtain ⟨rfl, hB, hE⟩ := hP
  have hx := Bd.exec
  have hb := Bd.bytes
  have hlocks := Bd.notSynchronized
  have hl := lv_entry ([.int i, .int n, v]) (n := 3) (by rcases hv with rfl | ⟨a, rfl⟩ <;> exact Nat.le_of_ble_eq_true rfl)
  rw [lg_entry_eq]
  generalize (lg_sl ([.int i, .int n, v]) ++ List.replicate (3 - (lg_sl ([.int i, .int n, v])).length) Slot.unset).toArray = ls at hl ⊢
  have hl0 : ls[0]? = some (.val (.int i)) := lv_at hl 0 rfl
  have hl1 : ls[1]? = some (.val (.int n)) := lv_at hl 1 rfl
  refine lv_iload_n hx hb (by decide +kernel : decode prog_15_method_11_code 0 = .ok (.iload_n 0, 1)) rfl hl0 ?_
  refine lv_if_lt (tgt := 9) hx hb (by decide +kernel : decode prog_15_method_11_code 1 = .ok (.ifCond .lt 8, 3)) (by decide) (fun h => absurd h h0) (fun _ => ?_)
  refine lv_iload_n hx hb (by decide +kernel : decode prog_15_method_11_code 4 = .ok (.iload_n 0, 1)) rfl hl0 ?_
  refine lv_iload_n hx hb (by decide +kernel : decode prog_15_method_11_code 5 = .ok (.iload_n 1, 1)) rfl hl1 ?_
  refine lv_icmp_lt (tgt := 16) hx hb (by decide +kernel : decode prog_15_method_11_code 6 = .ok (.if_icmp .lt 10, 3)) (by decide) (fun _ => ?_) (fun h => absurd hn h)
  refine lv_iload_n hx hb (by decide +kernel : decode prog_15_method_11_code 16 = .ok (.iload_n 0, 1)) rfl hl0 ?_
  exact W.iret hx hb Bd.returns (fun t ht _ => ⟨rfl, ht⟩) t_nil (by decide +kernel : decode prog_15_method_11_code 17 = .ok (.ireturn, 1))
theorem c_Strck {i n : Int32} (h0 : ¬ i < 0) (hn : i < n) : Met l ySk (.code ySk prog_12_method_155_code 2 none :: z_T) (z_rs 1) (z_Ps ad B [.int i, .int n]) z_QV 0 0 (fun _ => False) := by
  refine Met.ofW (cc := prog_12_method_155_code) (maxL := 2) (ret := none) (by decide) rfl ?_
  intro p e s m args below meth c s₁ Bd hml hP
  obtain ⟨rfl, hB, hE⟩ := hP
  have hx := Bd.exec
  have hb := Bd.bytes
  have hlocks := Bd.notSynchronized
  have hts : ∀ w ∈ z_T, w.before ([Value.int i, .int n]).toArray s = true := fun w hw => atoms_spec (ws := .code ySk prog_12_method_155_code 2 none :: z_T) Bd.pre w (List.mem_cons_of_mem _ hw)
  have hown : s.vm.findClass "java/lang/String" = some m.cls := findClass_of_methodNamed Bd.named
  have hl := lv_entry ([.int i, .int n]) (n := 2) (Nat.le_of_ble_eq_true rfl)
  rw [lg_entry_eq]
  generalize (lg_sl ([.int i, .int n]) ++ List.replicate (2 - (lg_sl ([.int i, .int n])).length) Slot.unset).toArray = ls at hl ⊢
  have hS : va_S (fun q => B ≤ q) s.heap s.heap [] := va_S.rf
  obtain ⟨k1, v1, e1, e2, e3, e4⟩ := id hE
  refine lv_iload_n hx hb (by decide +kernel : decode prog_12_method_155_code 0 = .ok (.iload_n 0, 1)) rfl (lv_at hl 0 rfl) ?_
  refine lv_iload_n hx hb (by decide +kernel : decode prog_12_method_155_code 1 = .ok (.iload_n 1, 1)) rfl (lv_at hl 1 rfl) ?_
  have go : ∀ v : Value, (v = .null ∨ ∃ a, v = .ref a) → W p l e (headSpec (.code ySk prog_12_method_155_code 2 none :: z_T) (z_rs 1)).room s m ([Value.int i, .int n]).toArray below meth c s.heap [] 0 0 (MQ below z_QV ([Value.int i, .int n]).toArray s 0 0 (fun _ => False)) (F0 m 5 ls [v, .int n, .int i]) := by
    intro v hv
    have cb : CallB (headSpec (.code ySk prog_12_method_155_code 2 none :: z_T) (z_rs 1)).room s ([Value.int i, .int n]).toArray "java/lang/String" 1059 yPk prog_15_method_11_code 3 (some .int) (.code yPk prog_15_method_11_code 3 (some .int) :: z_T) (z_rs 0) 0 0 3 :=
      callB_of _ hts (z_goodIn (z_wd_in (i := 3123) (by decide +kernel))) rfl rfl rfl (hts _ (z_wd_in (i := 1013) (by decide +kernel))) (hts _ (z_wd_in (i := 3121) (by decide +kernel))) (by decide +kernel) ⟨Nat.le_of_ble_eq_true rfl, Nat.le_of_ble_eq_true rfl⟩
    refine W.callR (W.runS (As := [.int i, .int n, v]) (rest := []) ⟨hx, hb, hml, hown, hts⟩ (c_Preck h0 hn hv) ⟨cb, hts _ (z_wd_in (i := 3122) (by decide +kernel))⟩ ⟨z_Ps_blind, fun U hU hW => ⟨rfl, by rw [hU]; exact hB, by rw [hU]; exact z_E_moved hW.alike hE⟩⟩ rfl rfl hl.1 rfl (lv_room (Nat.le_of_ble_eq_true rfl)) (by decide +kernel : decode prog_12_method_155_code 5 = .ok (.invokestatic 1059, 3)) ⟨Nat.le_refl _, Nat.le_refl _⟩) ?_
    refine lv_pop hx hb (by decide +kernel : decode prog_12_method_155_code 8 = .ok (.pop, 1)) rfl ?_
    exact W.vret hx hb Bd.returns (fun t ht _ => ⟨rfl, ht⟩) t_nil (by decide +kernel : decode prog_12_method_155_code 9 = .ok (.return_, 1))
  rcases e4 with e4 | ⟨t, e4⟩
  · exact va_gets hx hb e4 hS hown (hts (.fieldLink "java/lang/String" 1053 "jdk/internal/util/Preconditions" "SIOOBE_FORMATTER" "Ljava/util/function/BiFunction;") (z_wd_in (i := 3119) (by decide +kernel))) (fun _ h => h) (by decide +kernel : decode prog_12_method_155_code 2 = .ok (.getstatic 1053, 3)) (go _ (Or.inl rfl))
  · exact va_gets hx hb e4 hS hown (hts (.fieldLink "java/lang/String" 1053 "jdk/internal/util/Preconditions" "SIOOBE_FORMATTER" "Ljava/util/function/BiFunction;") (z_wd_in (i := 3119) (by decide +kernel))) (fun _ h => h) (by decide +kernel : decode prog_12_method_155_code 2 = .ok (.getstatic 1053, 3)) (go _ (Or.inr ⟨t, rfl⟩))
theorem c_Coder {a : Nat} {j : Nat} (hj : j < 3) (ha : ad (-2 - (j : Int)) = some a) : Met l ySc (.code ySc prog_12_method_152_code 1 (some .byte) :: z_T) (z_rs 0) (z_Ps ad B [.ref a]) (QcRead 0) 0 0 (fun _ => False) := by
  refine Met.ofW (cc := prog_12_method_152_code) (maxL := 1) (ret := some .byte) (by decide) rfl ?_
  intro p e s m args below meth c s₁ Bd hml hP
  obtain ⟨rfl, hB, hE⟩ := hP
  have hx := Bd.exec
  have hb := Bd.bytes
  have hlocks := Bd.notSynchronized
  have hts : ∀ w ∈ z_T, w.before ([Value.ref a]).toArray s = true := fun w hw => atoms_spec (ws := .code ySc prog_12_method_152_code 1 (some .byte) :: z_T) Bd.pre w (List.mem_cons_of_mem _ hw)
  have hown : s.vm.findClass "java/lang/String" = some m.cls := findClass_of_methodNamed Bd.named
  have hl := lv_entry ([.ref a]) (n := 1) (Nat.le_of_ble_eq_true rfl)
  rw [lg_entry_eq]
  generalize (lg_sl ([.ref a]) ++ List.replicate (1 - (lg_sl ([.ref a])).length) Slot.unset).toArray = ls at hl ⊢
  have hS : va_S (fun q => B ≤ q) s.heap s.heap [] := va_S.rf
  obtain ⟨k1, v1, e1, e2, e3, e4⟩ := id hE
  have ek : k1 j = a := Option.some.inj ((e1 j hj).symm.trans ha)
  obtain ⟨o1, o2, o3, o4⟩ := e2.1 j hj
  rw [ek] at o2
  refine va_gets hx hb e3 hS hown (hts (.fieldLink "java/lang/String" 38 "java/lang/String" "COMPACT_STRINGS" "Z") (z_wd_in (i := 3103) (by decide +kernel))) (fun _ h => h) (by decide +kernel : decode prog_12_method_152_code 0 = .ok (.getstatic 38, 3)) ?_
  refine lv_if_eq (tgt := 13) hx hb (by decide +kernel : decode prog_12_method_152_code 3 = .ok (.ifCond .eq 10, 3)) (by decide) (fun h => absurd h (by decide)) (fun _ => ?_)
  refine lv_aload_n hx hb (by decide +kernel : decode prog_12_method_152_code 6 = .ok (.aload_n 0, 1)) rfl (lv_at hl 0 rfl) ?_
  refine vk_getf hx hb o2 hS hown (hts (.fieldLink "java/lang/String" 15 "java/lang/String" "coder" "B") (z_wd_in (i := 8138) (by decide +kernel))) (fun _ h => h) (by decide +kernel : decode prog_12_method_152_code 7 = .ok (.getfield 15, 3)) ?_
  refine lv_goto (tgt := 14) hx hb (by decide +kernel : decode prog_12_method_152_code 10 = .ok (.goto 4, 3)) (by decide) ?_
  exact W.zret hx hb Bd.returns (by decide) (fun t ht _ => ⟨rfl, ht⟩) t_nil (by decide +kernel : decode prog_12_method_152_code 14 = .ok (.ireturn, 1))
theorem c_Latin {a : Nat} {j : Nat} (hj : j < 3) (ha : ad (-2 - (j : Int)) = some a) : Met l ySi (.code ySi prog_12_method_154_code 1 (some .boolean) :: z_T) (z_rs 0) (z_Ps ad B [.ref a]) (QcRead 1) 0 0 (fun _ => False) := by
  refine Met.ofW (cc := prog_12_method_154_code) (maxL := 1) (ret := some .boolean) (by decide) rfl ?_
  intro p e s m args below meth c s₁ Bd hml hP
  obtain ⟨rfl, hB, hE⟩ := hP
  have hx := Bd.exec
  have hb := Bd.bytes
  have hlocks := Bd.notSynchronized
  have hts : ∀ w ∈ z_T, w.before ([Value.ref a]).toArray s = true := fun w hw => atoms_spec (ws := .code ySi prog_12_method_154_code 1 (some .boolean) :: z_T) Bd.pre w (List.mem_cons_of_mem _ hw)
  have hown : s.vm.findClass "java/lang/String" = some m.cls := findClass_of_methodNamed Bd.named
  have hl := lv_entry ([.ref a]) (n := 1) (Nat.le_of_ble_eq_true rfl)
  rw [lg_entry_eq]
  generalize (lg_sl ([.ref a]) ++ List.replicate (1 - (lg_sl ([.ref a])).length) Slot.unset).toArray = ls at hl ⊢
  have hS : va_S (fun q => B ≤ q) s.heap s.heap [] := va_S.rf
  obtain ⟨k1, v1, e1, e2, e3, e4⟩ := id hE
  have ek : k1 j = a := Option.some.inj ((e1 j hj).symm.trans ha)
  obtain ⟨o1, o2, o3, o4⟩ := e2.1 j hj
  rw [ek] at o2
  refine va_gets hx hb e3 hS hown (hts (.fieldLink "java/lang/String" 38 "java/lang/String" "COMPACT_STRINGS" "Z") (z_wd_in (i := 3103) (by decide +kernel))) (fun _ h => h) (by decide +kernel : decode prog_12_method_154_code 0 = .ok (.getstatic 38, 3)) ?_
  refine lv_if_eq (tgt := 17) hx hb (by decide +kernel : decode prog_12_method_154_code 3 = .ok (.ifCond .eq 14, 3)) (by decide) (fun h => absurd h (by decide)) (fun _ => ?_)
  refine lv_aload_n hx hb (by decide +kernel : decode prog_12_method_154_code 6 = .ok (.aload_n 0, 1)) rfl (lv_at hl 0 rfl) ?_
  refine vk_getf hx hb o2 hS hown (hts (.fieldLink "java/lang/String" 15 "java/lang/String" "coder" "B") (z_wd_in (i := 8138) (by decide +kernel))) (fun _ h => h) (by decide +kernel : decode prog_12_method_154_code 7 = .ok (.getfield 15, 3)) ?_
  refine lv_if_ne (tgt := 17) hx hb (by decide +kernel : decode prog_12_method_154_code 10 = .ok (.ifCond .ne 7, 3)) (by decide) (fun h => absurd rfl h) (fun _ => ?_)
  refine lv_iconst (v := 1) hx hb (by decide +kernel : decode prog_12_method_154_code 13 = .ok (.iconst 1, 1)) (by decide) ?_
  refine lv_goto (tgt := 18) hx hb (by decide +kernel : decode prog_12_method_154_code 14 = .ok (.goto 4, 3)) (by decide) ?_
  exact W.zret hx hb Bd.returns (by decide) (fun t ht _ => ⟨rfl, ht⟩) t_nil (by decide +kernel : decode prog_12_method_154_code 18 = .ok (.ireturn, 1))
def z_Pv (ad : Int → Option Nat) (B : Nat) (v j : Nat) (vs : List Value) : Array Value → State → Prop := va_Pc vs (fun U => B ≤ U.heap.size ∧ z_E ad B U U.heap ∧ va_T .byte v ([2, 4, 5].getD j 0) (fun i => .int ((z_byt.getD j []).getD i 0)) (fun q => B ≤ q) U U.heap)
theorem z_Pv_blind {v j : Nat} {vs : List Value} : FrameBlind (z_Pv ad B v j vs) := by
  intro a U g mk h
  obtain ⟨h0, h1, h2, h3⟩ := h
  exact ⟨h0, h1, z_E_moved (u := U) (U := U.calling g mk a) (Vm.Alike.refl U.vm) h2, va_T.moved (u := U) (U := U.calling g mk a) (Vm.Alike.refl U.vm) h3⟩
theorem z_bytes : ∀ j, j < 3 → ∀ i, i < [2, 4, 5].getD j 0 → ((((z_byt.getD j []).getD i 0) &&& 255).toUInt32 % 65536).toInt32 = (z_byt.getD j []).getD i 0 ∧ narrow .char (.int ((z_byt.getD j []).getD i 0)) = .int ((z_byt.getD j []).getD i 0) := by decide +kernel
section STV
variable {p : Program} {e : Env} {R : Room} {s : State} {m : MethodId} {args : Array Value} {below : List Frame} {meth : Method} {c : Code} {H : Heap} {locs : List Loc} {cells slots : Nat} {Q : State → Prop}
theorem z_callV0 {g : JFrame} {rest : List Value} {a : Array Value} (hr : CallRun p l e R s m args below meth c H locs cells slots 0 0 g rest (z_QV a) (fun _ => False)) (kk : W p l e R s m args below meth c H locs cells slots Q { g with pc := g.pc + 3, stack := rest }) : W p l e R s m args below meth c H locs cells slots Q g := by
  intro T hT X
  obtain ⟨v, st₀, t, T', L, h0, X', hL, e1, ⟨hv, hh⟩, st⟩ := hr T hT X
  cases hv
  obtain ⟨t2, a1, b1⟩ := kk T' (by rw [e1, hh, h0]) (Stand.forget X' (fun q h => (hL q h).elim))
  exact ⟨t2, st t2 a1, b1⟩
end STV
theorem z_vin {i : Int32} {n : Nat} (h : vp_in i n) (hn : n < 2 ^ 31) : ¬ i < 0 ∧ i < Int32.ofNat n := by
  obtain ⟨h1, h2⟩ := vp_in_iff.mp h
  refine ⟨fun z => ?_, ?_⟩
  · rw [Int32.lt_iff_toInt_lt] at z
    have : (0 : Int32).toInt = 0 := rfl
    omega
  · rw [Int32.lt_iff_toInt_lt]
    have : (Int32.ofNat n).toInt = n := nI_toInt hn
    omega
theorem c_LatAt {v j : Nat} {i : Int32} (hj : j < 3) (hi : vp_in i ([2, 4, 5].getD j 0)) : Met l yLa (.code yLa prog_13_method_2_code 2 (some .char) :: z_T) (z_rs 2) (z_Pv ad B v j [.ref v, .int i]) (QcRead ((z_byt.getD j []).getD i.toNatClampNeg 0)) 0 0 (fun _ => False) := by
  refine Met.ofW (cc := prog_13_method_2_code) (maxL := 2) (ret := some .char) (by decide) rfl ?_
  intro p e s m args below meth c s₁ Bd hml hP
  obtain ⟨rfl, hB, hE, hT⟩ := hP
  have hx := Bd.exec
  have hb := Bd.bytes
  have hlocks := Bd.notSynchronized
  have hts : ∀ w ∈ z_T, w.before ([Value.ref v, .int i]).toArray s = true := fun w hw => atoms_spec (ws := .code yLa prog_13_method_2_code 2 (some .char) :: z_T) Bd.pre w (List.mem_cons_of_mem _ hw)
  have hown : s.vm.findClass "java/lang/StringLatin1" = some m.cls := findClass_of_methodNamed Bd.named
  have hl := lv_entry ([.ref v, .int i]) (n := 2) (Nat.le_of_ble_eq_true rfl)
  rw [lg_entry_eq]
  generalize (lg_sl ([.ref v, .int i]) ++ List.replicate (2 - (lg_sl ([.ref v, .int i])).length) Slot.unset).toArray = ls at hl ⊢
  have hS : va_S (fun q => B ≤ q) s.heap s.heap [] := va_S.rf
  have hjl : [2, 4, 5].getD j 0 < 2 ^ 31 := by
    have : ∀ j, j < 3 → [2, 4, 5].getD j 0 < 2 ^ 31 := by decide +kernel
    exact this j hj
  obtain ⟨n1, n2⟩ := z_vin hi hjl
  have hlt : i.toNatClampNeg < [2, 4, 5].getD j 0 := Nat.not_le.mp fun q => hi (Or.inr q)
  obtain ⟨b1, b2⟩ := z_bytes j hj _ hlt
  refine lv_iload_n hx hb (by decide +kernel : decode prog_13_method_2_code 0 = .ok (.iload_n 1, 1)) rfl (lv_at hl 1 rfl) ?_
  refine lv_aload_n hx hb (by decide +kernel : decode prog_13_method_2_code 1 = .ok (.aload_n 0, 1)) rfl (lv_at hl 0 rfl) ?_
  refine va_tlen hx hb hT hS rfl (by decide +kernel : decode prog_13_method_2_code 2 = .ok (.arraylength, 1)) ?_
  have cb : CallB (headSpec (.code yLa prog_13_method_2_code 2 (some .char) :: z_T) (z_rs 2)).room s ([Value.ref v, .int i]).toArray "java/lang/StringLatin1" 9 ySk prog_12_method_155_code 2 none (.code ySk prog_12_method_155_code 2 none :: z_T) (z_rs 1) 0 0 2 :=
    callB_of _ hts (z_goodIn (z_wd_in (i := 3118) (by decide +kernel))) rfl rfl rfl (hts _ (z_wd_in (i := 1011) (by decide +kernel))) (hts _ (z_wd_in (i := 3116) (by decide +kernel))) (by decide +kernel) ⟨Nat.le_of_ble_eq_true rfl, Nat.le_of_ble_eq_true rfl⟩
  refine z_callV0 (W.runS (As := [.int i, .int (Int32.ofNat ([2, 4, 5].getD j 0))]) (rest := []) ⟨hx, hb, hml, hown, hts⟩ (c_Strck (ad := ad) (B := B) n1 n2) ⟨cb, hts _ (z_wd_in (i := 3117) (by decide +kernel))⟩ ⟨z_Ps_blind, fun U hU hW => ⟨rfl, by rw [hU]; exact hB, by rw [hU]; exact z_E_moved hW.alike hE⟩⟩ rfl rfl hl.1 rfl (lv_room (Nat.le_of_ble_eq_true rfl)) (by decide +kernel : decode prog_13_method_2_code 3 = .ok (.invokestatic 9, 3)) ⟨Nat.le_refl _, Nat.le_refl _⟩) ?_
  refine lv_aload_n hx hb (by decide +kernel : decode prog_13_method_2_code 6 = .ok (.aload_n 0, 1)) rfl (lv_at hl 0 rfl) ?_
  refine lv_iload_n hx hb (by decide +kernel : decode prog_13_method_2_code 7 = .ok (.iload_n 1, 1)) rfl (lv_at hl 1 rfl) ?_
  refine va_tb hx hb hT hS hi rfl (by decide +kernel : decode prog_13_method_2_code 8 = .ok (.baload, 1)) ?_
  refine lv_sipush (v := 255) hx hb (by decide +kernel : decode prog_13_method_2_code 9 = .ok (.sipush 255, 3)) (by decide) ?_
  refine lv_iand hx hb (by decide +kernel : decode prog_13_method_2_code 12 = .ok (.iand, 1)) ?_
  refine lv_i2c hx hb (by decide +kernel : decode prog_13_method_2_code 13 = .ok (.i2c, 1)) b1 ?_
  exact W.zret hx hb Bd.returns b2 (fun t ht _ => ⟨rfl, ht⟩) t_nil (by decide +kernel : decode prog_13_method_2_code 14 = .ok (.ireturn, 1))
theorem z_recS {s : State} {H : Heap} {a j : Nat} (hE : z_E ad B s H) (hj : j < 3) (ha : ad (-2 - (j : Int)) = some a) : ∃ cell : Cell, H[a]? = some cell ∧ cell.vm.isStatics = false ∧ s.vm.findClass "java/lang/String" = some cell.cls := by
  obtain ⟨k1, v1, e1, e2, e3, e4⟩ := hE
  have ek : k1 j = a := Option.some.inj ((e1 j hj).symm.trans ha)
  obtain ⟨⟨cell, o1, o2, o3, -⟩, -⟩ := e2.1 j hj
  rw [ek] at o1
  exact ⟨cell, o1, o2, o3⟩
theorem c_CharAt {a j : Nat} {i : Int32} (hj : j < 3) (ha : ad (-2 - (j : Int)) = some a) (hi : vp_in i ([2, 4, 5].getD j 0)) : Met l ySa (.code ySa prog_12_method_56_code 2 (some .char) :: z_T) (z_rs 3) (z_Ps ad B [.ref a, .int i]) (QcRead ((z_byt.getD j []).getD i.toNatClampNeg 0)) 0 0 (fun _ => False) := by
  refine Met.ofW (cc := prog_12_method_56_code) (maxL := 2) (ret := some .char) (by decide) rfl ?_
  intro p e s m args below meth c s₁ Bd hml hP
  obtain ⟨rfl, hB, hE⟩ := hP
  have hx := Bd.exec
  have hb := Bd.bytes
  have hlocks := Bd.notSynchronized
  have hts : ∀ w ∈ z_T, w.before ([Value.ref a, .int i]).toArray s = true := fun w hw => atoms_spec (ws := .code ySa prog_12_method_56_code 2 (some .char) :: z_T) Bd.pre w (List.mem_cons_of_mem _ hw)
  have hown : s.vm.findClass "java/lang/String" = some m.cls := findClass_of_methodNamed Bd.named
  have hl := lv_entry ([.ref a, .int i]) (n := 2) (Nat.le_of_ble_eq_true rfl)
  rw [lg_entry_eq]
  generalize (lg_sl ([.ref a, .int i]) ++ List.replicate (2 - (lg_sl ([.ref a, .int i])).length) Slot.unset).toArray = ls at hl ⊢
  have hS : va_S (fun q => B ≤ q) s.heap s.heap [] := va_S.rf
  obtain ⟨k1, v1, e1, e2, e3, e4⟩ := id hE
  have ek : k1 j = a := Option.some.inj ((e1 j hj).symm.trans ha)
  obtain ⟨o1, o2, o3, o4⟩ := e2.1 j hj
  rw [ek] at o3
  have hlt : i.toNatClampNeg < [2, 4, 5].getD j 0 := Nat.not_le.mp fun q => hi (Or.inr q)
  obtain ⟨b1, b2⟩ := z_bytes j hj _ hlt
  refine lv_aload_n hx hb (by decide +kernel : decode prog_12_method_56_code 0 = .ok (.aload_n 0, 1)) rfl (lv_at hl 0 rfl) ?_
  have cb : CallB (headSpec (.code ySa prog_12_method_56_code 2 (some .char) :: z_T) (z_rs 3)).room s ([Value.ref a, .int i]).toArray "java/lang/String" 492 ySi prog_12_method_154_code 1 (some .boolean) (.code ySi prog_12_method_154_code 1 (some .boolean) :: z_T) (z_rs 0) 0 0 0 :=
    callB_of _ hts (z_goodIn (z_wd_in (i := 3112) (by decide +kernel))) rfl rfl rfl (hts _ (z_wd_in (i := 1011) (by decide +kernel))) (hts _ (z_wd_in (i := 3109) (by decide +kernel))) (by decide +kernel) ⟨Nat.le_of_ble_eq_true rfl, Nat.le_of_ble_eq_true rfl⟩
  refine W.callR (W.runV (C := "java/lang/String") (As := []) (rest := []) ⟨hx, hb, hml, hown, hts⟩ (c_Latin (ad := ad) (B := B) hj ha) ⟨cb, hts _ (z_wd_in (i := 3110) (by decide +kernel)), hts _ (z_wd_in (i := 3111) (by decide +kernel))⟩ ⟨z_Ps_blind, z_recS hE hj ha, fun U hU hW => ⟨rfl, by rw [hU]; exact hB, by rw [hU]; exact z_E_moved hW.alike hE⟩⟩ rfl rfl hl.1 rfl (lv_room (Nat.le_of_ble_eq_true rfl)) (by decide +kernel : decode prog_12_method_56_code 1 = .ok (.invokevirtual 492, 3)) ⟨Nat.le_refl _, Nat.le_refl _⟩) ?_
  refine lv_if_eq (tgt := 16) hx hb (by decide +kernel : decode prog_12_method_56_code 4 = .ok (.ifCond .eq 12, 3)) (show ((4 : Nat) : Int) + 12 = ((16 : Nat) : Int) by decide) (fun h => absurd h (by decide)) (fun _ => ?_)
  refine lv_aload_n hx hb (by decide +kernel : decode prog_12_method_56_code 7 = .ok (.aload_n 0, 1)) rfl (lv_at hl 0 rfl) ?_
  refine vk_getf hx hb o3 hS hown (hts (.fieldLink "java/lang/String" 9 "java/lang/String" "value" "[B") (z_wd_in (i := 8137) (by decide +kernel))) (fun _ h => h) (by decide +kernel : decode prog_12_method_56_code 8 = .ok (.getfield 9, 3)) ?_
  refine lv_iload_n hx hb (by decide +kernel : decode prog_12_method_56_code 11 = .ok (.iload_n 1, 1)) rfl (lv_at hl 1 rfl) ?_
  have cb2 : CallB (headSpec (.code ySa prog_12_method_56_code 2 (some .char) :: z_T) (z_rs 3)).room s ([Value.ref a, .int i]).toArray "java/lang/String" 495 yLa prog_13_method_2_code 2 (some .char) (.code yLa prog_13_method_2_code 2 (some .char) :: z_T) (z_rs 2) 0 0 2 :=
    callB_of _ hts (z_goodIn (z_wd_in (i := 3115) (by decide +kernel))) rfl rfl rfl (hts _ (z_wd_in (i := 1012) (by decide +kernel))) (hts _ (z_wd_in (i := 3113) (by decide +kernel))) (by decide +kernel) ⟨Nat.le_of_ble_eq_true rfl, Nat.le_of_ble_eq_true rfl⟩
  refine W.callR (W.runS (As := [.ref (v1 j), .int i]) (rest := []) ⟨hx, hb, hml, hown, hts⟩ (c_LatAt (ad := ad) (B := B) hj hi) ⟨cb2, hts _ (z_wd_in (i := 3114) (by decide +kernel))⟩ ⟨z_Pv_blind, fun U hU hW => ⟨rfl, by rw [hU]; exact hB, by rw [hU]; exact z_E_moved hW.alike hE, by rw [hU]; exact o4.moved hW.alike⟩⟩ rfl rfl hl.1 rfl (lv_room (Nat.le_of_ble_eq_true rfl)) (by decide +kernel : decode prog_12_method_56_code 12 = .ok (.invokestatic 495, 3)) ⟨Nat.le_refl _, Nat.le_refl _⟩) ?_
  exact W.zret hx hb Bd.returns b2 (fun t ht _ => ⟨rfl, ht⟩) t_nil (by decide +kernel : decode prog_12_method_56_code 15 = .ok (.ireturn, 1))
theorem c_Length {a j : Nat} (hj : j < 3) (ha : ad (-2 - (j : Int)) = some a) : Met l ySl (.code ySl prog_12_method_54_code 1 (some .int) :: z_T) (z_rs 1) (z_Ps ad B [.ref a]) (QcRead (Int32.ofNat ([2, 4, 5].getD j 0))) 0 0 (fun _ => False) := by
  refine Met.ofW (cc := prog_12_method_54_code) (maxL := 1) (ret := some .int) (by decide) rfl ?_
  intro p e s m args below meth c s₁ Bd hml hP
  obtain ⟨rfl, hB, hE⟩ := hP
  have hx := Bd.exec
  have hb := Bd.bytes
  have hlocks := Bd.notSynchronized
  have hts : ∀ w ∈ z_T, w.before ([Value.ref a]).toArray s = true := fun w hw => atoms_spec (ws := .code ySl prog_12_method_54_code 1 (some .int) :: z_T) Bd.pre w (List.mem_cons_of_mem _ hw)
  have hown : s.vm.findClass "java/lang/String" = some m.cls := findClass_of_methodNamed Bd.named
  have hl := lv_entry ([.ref a]) (n := 1) (Nat.le_of_ble_eq_true rfl)
  rw [lg_entry_eq]
  generalize (lg_sl ([.ref a]) ++ List.replicate (1 - (lg_sl ([.ref a])).length) Slot.unset).toArray = ls at hl ⊢
  have hS : va_S (fun q => B ≤ q) s.heap s.heap [] := va_S.rf
  obtain ⟨k1, v1, e1, e2, e3, e4⟩ := id hE
  have ek : k1 j = a := Option.some.inj ((e1 j hj).symm.trans ha)
  obtain ⟨o1, o2, o3, o4⟩ := e2.1 j hj
  rw [ek] at o3
  refine lv_aload_n hx hb (by decide +kernel : decode prog_12_method_54_code 0 = .ok (.aload_n 0, 1)) rfl (lv_at hl 0 rfl) ?_
  refine vk_getf hx hb o3 hS hown (hts (.fieldLink "java/lang/String" 9 "java/lang/String" "value" "[B") (z_wd_in (i := 8137) (by decide +kernel))) (fun _ h => h) (by decide +kernel : decode prog_12_method_54_code 1 = .ok (.getfield 9, 3)) ?_
  refine va_tlen hx hb o4 hS rfl (by decide +kernel : decode prog_12_method_54_code 4 = .ok (.arraylength, 1)) ?_
  refine lv_aload_n hx hb (by decide +kernel : decode prog_12_method_54_code 5 = .ok (.aload_n 0, 1)) rfl (lv_at hl 0 rfl) ?_
  have cb : CallB (headSpec (.code ySl prog_12_method_54_code 1 (some .int) :: z_T) (z_rs 1)).room s ([Value.ref a]).toArray "java/lang/String" 335 ySc prog_12_method_152_code 1 (some .byte) (.code ySc prog_12_method_152_code 1 (some .byte) :: z_T) (z_rs 0) 0 0 0 :=
    callB_of _ hts (z_goodIn (z_wd_in (i := 3102) (by decide +kernel))) rfl rfl rfl (hts _ (z_wd_in (i := 1011) (by decide +kernel))) (hts _ (z_wd_in (i := 3099) (by decide +kernel))) (by decide +kernel) ⟨Nat.le_of_ble_eq_true rfl, Nat.le_of_ble_eq_true rfl⟩
  refine W.callR (W.runV (C := "java/lang/String") (As := []) (rest := [.int (Int32.ofNat ([2, 4, 5].getD j 0))]) ⟨hx, hb, hml, hown, hts⟩ (c_Coder (ad := ad) (B := B) hj ha) ⟨cb, hts _ (z_wd_in (i := 3100) (by decide +kernel)), hts _ (z_wd_in (i := 3101) (by decide +kernel))⟩ ⟨z_Ps_blind, z_recS hE hj ha, fun U hU hW => ⟨rfl, by rw [hU]; exact hB, by rw [hU]; exact z_E_moved hW.alike hE⟩⟩ rfl rfl hl.1 rfl (lv_room (Nat.le_of_ble_eq_true rfl)) (by decide +kernel : decode prog_12_method_54_code 6 = .ok (.invokevirtual 335, 3)) ⟨Nat.le_refl _, Nat.le_refl _⟩) ?_
  have hsh : ∀ j, j < 3 → Int32.ofNat ([2, 4, 5].getD j 0) >>> ((0 : Int32) &&& 31) = Int32.ofNat ([2, 4, 5].getD j 0) := by decide +kernel
  refine lv_ishr hx hb (by decide +kernel : decode prog_12_method_54_code 9 = .ok (.ishr, 1)) ?_
  rw [hsh j hj]
  exact W.iret hx hb Bd.returns (fun t ht _ => ⟨rfl, ht⟩) t_nil (by decide +kernel : decode prog_12_method_54_code 10 = .ok (.ireturn, 1))
end ST
section ZS
variable {p : Program} {l : Launch} {e : Env} {R : Room} {s : State} {m : MethodId} {args : Array Value} {below : List Frame} {meth : Method} {c : Code} {Q : State → Prop}
variable {cc : ByteArray} {nL : Nat} {own : String} {D : va_G} {ca : Nat → ClassId} {ad : Int → Option Nat} {B n0 s0 : Nat}
variable {isI : Bool} {rt : Option FieldType} {pc n : Nat} {ll st : List zV} {σ : zS} {g g2 g3 : Int} {q : List (Int × Int)}
theorem zs_29 {j i : Int} (C : z_C p s m args c cc nL own D ca ad B n0) (hg : z_good own isI rt cc pc (29, n, j, i, g, q) = true) (hj : 0 ≤ j ∧ j < 3) (k : z_G p l e R s m args below meth c Q nL D ca ad B n0 s0 n ll ((2, -2 - j) :: st) σ) : z_G p l e R s m args below meth c Q nL D ca ad B n0 s0 pc ll st σ := by
  obtain ⟨hd, hxx⟩ := z_good_inv hg
  intro H locs ls hH hS hL hst h1 h2
  simp only [z_ins] at hd
  simp only [z_xtr, decide_eq_true_eq] at hxx
  obtain ⟨rfl, hown, hi⟩ := hxx
  have k2 := k H locs ls hH hS hL (z_all1 z_okR hst) h1 h2
  obtain ⟨a, ha, hr⟩ := C.2.2.2.2.2.1.2.2 j.toNat (by omega)
  rw [show ((j.toNat : Nat) : Int) = j by omega] at ha
  rw [List.map_cons, z_cv2, ha] at k2
  have hix : i.toNat = [85, 91, 93].getD j.toNat 0 := by
    have hc : j = 0 ∨ j = 1 ∨ j = 2 := by omega
    rcases hc with rfl | rfl | rfl <;> (subst hi; rfl)
  rw [hix] at hd
  exact va_ldcS C.1 C.2.1 (by rw [← hown]; exact C.2.2.2.1) hr hd k2
theorem zs_30 {i a : Int} (C : z_C p s m args c cc nL own D ca ad B n0) (hR : 6 ≤ R.frames ∧ 240 ≤ R.locals) (hcap : σ.1 - n0 ≤ R.cells ∧ σ.2.1 - s0 ≤ R.slots) (hg : z_good own isI rt cc pc (30, n, i, g, g2, q) = true) (ha : -4 ≤ a ∧ a ≤ -2 ∧ st.length ≤ 4) (k : z_G p l e R s m args below meth c Q nL D ca ad B n0 s0 n ll ((0, ((z_str a).length : Int)) :: st) σ) : z_G p l e R s m args below meth c Q nL D ca ad B n0 s0 pc ll ((2, a) :: st) σ := by
  obtain ⟨hd, hxx⟩ := z_good_inv hg
  intro H locs ls hH hS hL hst h1 h2
  replace hst := (List.forall_mem_cons.mp hst).2
  simp only [z_ins] at hd
  simp only [z_xtr, Bool.and_eq_true, decide_eq_true_eq] at hxx
  obtain ⟨rfl, hw⟩ := hxx
  have hts := C.2.2.2.2.1
  have hsum := z_sum4 (ad := ad) st
  obtain ⟨j, hj, ej⟩ : ∃ j : Nat, j < 3 ∧ a = -2 - (j : Int) := ⟨(-2 - a).toNat, by omega, by omega⟩
  have hlen : ((z_str a).length : Int) = (([2, 4, 5].getD j 0 : Nat) : Int) := by
    subst ej
    match j, hj with
    | 0, _ => rfl
    | 1, _ => rfl
    | 2, _ => rfl
  have h32 : z_i32 ((z_str a).length : Int) := by
    unfold z_str z_i32
    split
    · decide
    · split <;> decide
  split at hw
  · have k2 := k H locs ls hH hS hL (z_all1 (z_okI h32) hst) h1 h2
    obtain ⟨k1, v1, e1, -⟩ := id hH.2.2.2
    have had := e1 j hj
    rw [← ej] at had
    simp only [List.map_cons, z_cv2, had, z_cv0, hlen] at k2 ⊢
    have cb : CallB R s args own i.toNat ySl prog_12_method_54_code 1 (some .int) (.code ySl prog_12_method_54_code 1 (some .int) :: z_T) (z_rs 1) 0 0 0 :=
      callB_of _ hts (z_goodIn (z_wd_in (i := 3098) (by decide +kernel))) rfl rfl rfl (hts _ (z_wd_in (i := 1011) (by decide +kernel))) (hts _ (z_wd_in hw)) (by decide +kernel) ⟨by show 1 + 1 ≤ _; omega, by show 8 + (1 + 11) + 40 * 1 ≤ _; omega⟩
    refine W.callR (W.runV (C := "java/lang/String") (As := []) (rest := st.map (z_cv ad)) ⟨C.1, C.2.1, C.2.2.1, C.2.2.2.1, hts⟩ (c_Length (ad := ad) (B := B) hj (by rw [← ej]; exact had)) ⟨cb, hts _ (z_wd_in (i := 3096) (by decide +kernel)), hts _ (z_wd_in (i := 3097) (by decide +kernel))⟩ ⟨z_Ps_blind, z_recS hH.2.2.2 hj (by rw [← ej]; exact had), fun U hU hW => ⟨rfl, by rw [hU]; have := hS.1; rw [C.2.2.2.2.2.2.2] at this; omega, by rw [hU]; exact z_E_moved hW.alike hH.2.2.2⟩⟩ rfl rfl hL.1 rfl (lv_room (by omega)) hd (by omega)) ?_
    rw [show Int32.ofNat ([2, 4, 5].getD j 0) = Int32.ofInt (([2, 4, 5].getD j 0 : Nat) : Int) from z_on]
    exact k2
  · cases hw
theorem zs_31 {i a x : Int} (C : z_C p s m args c cc nL own D ca ad B n0) (hR : 6 ≤ R.frames ∧ 240 ≤ R.locals) (hcap : σ.1 - n0 ≤ R.cells ∧ σ.2.1 - s0 ≤ R.slots) (hg : z_good own isI rt cc pc (31, n, i, g, g2, q) = true) (ha : -4 ≤ a ∧ a ≤ -2 ∧ 0 ≤ x ∧ x < ((z_str a).length : Int) ∧ st.length ≤ 4) (k : z_G p l e R s m args below meth c Q nL D ca ad B n0 s0 n ll ((0, (z_str a).getD x.toNat 0) :: st) σ) : z_G p l e R s m args below meth c Q nL D ca ad B n0 s0 pc ll ((0, x) :: (2, a) :: st) σ := by
  obtain ⟨hd, hxx⟩ := z_good_inv hg
  intro H locs ls hH hS hL hst h1 h2
  replace hst := (List.forall_mem_cons.mp (List.forall_mem_cons.mp hst).2).2
  simp only [z_ins] at hd
  simp only [z_xtr, Bool.and_eq_true, decide_eq_true_eq] at hxx
  obtain ⟨rfl, hw⟩ := hxx
  have hts := C.2.2.2.2.1
  have hsum := z_sum4 (ad := ad) st
  obtain ⟨j, hj, ej⟩ : ∃ j : Nat, j < 3 ∧ a = -2 - (j : Int) := ⟨(-2 - a).toNat, by omega, by omega⟩
  have hlen : (z_str a).length = [2, 4, 5].getD j 0 := by
    subst ej
    match j, hj with
    | 0, _ => rfl
    | 1, _ => rfl
    | 2, _ => rfl
  have hall : ∀ j, j < 3 → ∀ i, i < [2, 4, 5].getD j 0 → (z_byt.getD j []).getD i 0 = Int32.ofInt ((z_str (-2 - (j : Int))).getD i 0) ∧ z_w ((z_str (-2 - (j : Int))).getD i 0) = (z_str (-2 - (j : Int))).getD i 0 := by decide +kernel
  obtain ⟨b1, b2⟩ := hall j hj x.toNat (by omega)
  rw [← ej] at b1 b2
  have hjl : [2, 4, 5].getD j 0 < 2147483648 := by
    have : ∀ j, j < 3 → [2, 4, 5].getD j 0 < 2147483648 := by decide +kernel
    exact this j hj
  obtain ⟨x1, x2⟩ := z_ix (n := [2, 4, 5].getD j 0) ha.2.2.1 (by rw [← hlen]; exact ha.2.2.2.1) hjl
  split at hw
  · have k2 := k H locs ls hH hS hL (z_all1 (z_okI (by rw [← b2]; exact z_w_in _)) hst) h1 h2
    obtain ⟨k1, v1, e1, -⟩ := id hH.2.2.2
    have had := e1 j hj
    rw [← ej] at had
    simp only [List.map_cons, z_cv2, had, z_cv0] at k2 ⊢
    have cb : CallB R s args own i.toNat ySa prog_12_method_56_code 2 (some .char) (.code ySa prog_12_method_56_code 2 (some .char) :: z_T) (z_rs 3) 0 0 1 :=
      callB_of _ hts (z_goodIn (z_wd_in (i := 3108) (by decide +kernel))) rfl rfl rfl (hts _ (z_wd_in (i := 1011) (by decide +kernel))) (hts _ (z_wd_in hw)) (by decide +kernel) ⟨by show 3 + 1 ≤ _; omega, by show 8 + (2 + 11) + 40 * 3 ≤ _; omega⟩
    refine W.callR (W.runV (C := "java/lang/String") (As := [.int (Int32.ofInt x)]) (rest := st.map (z_cv ad)) ⟨C.1, C.2.1, C.2.2.1, C.2.2.2.1, hts⟩ (c_CharAt (ad := ad) (B := B) hj (by rw [← ej]; exact had) x1) ⟨cb, hts _ (z_wd_in (i := 3106) (by decide +kernel)), hts _ (z_wd_in (i := 3107) (by decide +kernel))⟩ ⟨z_Ps_blind, z_recS hH.2.2.2 hj (by rw [← ej]; exact had), fun U hU hW => ⟨rfl, by rw [hU]; have := hS.1; rw [C.2.2.2.2.2.2.2] at this; omega, by rw [hU]; exact z_E_moved hW.alike hH.2.2.2⟩⟩ rfl rfl hL.1 rfl (lv_room (by omega)) hd (by omega)) ?_
    rw [x2, b1]
    exact k2
  · cases hw
end ZS
