/-! THE GROUND OF THE SMALL MACHINE: words, numbers, what the heap holds -/
def z_T : List Cond := lw_tbl.filter goodWord
theorem z_inT {i : Nat} {w : Cond} (h : lw_tbl[i]? = some w) (hg : goodWord w = true) : w ∈ z_T := List.mem_filter.mpr ⟨List.mem_of_getElem? h, hg⟩
theorem z_goodT {w : Cond} (h : w ∈ z_T) : goodWord w = true := (List.mem_filter.mp h).2
/-- a word by its place: 1000 times the table's number, and its place there -/
def z_ch : List (List Cond) := [k2_sels lw_privs, tables_1_1, tables_1_2, tables_1_3, tables_1_4, tables_1_5, tables_1_6, tables_1_7, tables_1_8]
theorem z_ch_in {w : Cond} : ∀ c ∈ z_ch, w ∈ c → w ∈ lw_tbl := by
  intro c hc hw
  simp only [z_ch, List.mem_cons, List.not_mem_nil, or_false] at hc
  simp only [lw_tbl, tables_1, List.mem_append]
  rcases hc with rfl | rfl | rfl | rfl | rfl | rfl | rfl | rfl | rfl <;> simp only [hw, true_or, or_true]
def z_wd (i : Int) (w : Cond) : Bool := decide ((z_ch.getD (i.toNat / 1000) [])[i.toNat % 1000]? = some w) && goodWord w
theorem z_wd_in {i : Int} {w : Cond} (h : z_wd i w = true) : w ∈ z_T := by
  simp only [z_wd, Bool.and_eq_true, decide_eq_true_eq] at h
  have h1 := List.mem_of_getElem? h.1
  refine List.mem_filter.mpr ⟨?_, h.2⟩
  by_cases hc : i.toNat / 1000 < z_ch.length
  · rw [List.getD_eq_getElem?_getD, List.getElem?_eq_getElem hc, Option.getD_some] at h1
    exact z_ch_in _ (List.getElem_mem hc) h1
  · rw [List.getD_eq_getElem?_getD, List.getElem?_eq_none (by omega)] at h1
    cases h1
-- numbers
theorem z_t32 (x : Int) : (Int32.ofInt x).toInt = z_w x := by
  rw [Int32.toInt_ofInt]
  unfold z_w Int.bmod
  simp only [Int32.size]
  split <;> omega
theorem z_t64 (x : Int) : (Int64.ofInt x).toInt = z_W x := by
  rw [Int64.toInt_ofInt]
  unfold z_W Int.bmod
  simp only [Int64.size]
  split <;> omega
theorem z_w_id {x : Int} (h : z_i32 x) : z_w x = x := by
  unfold z_i32 at h
  unfold z_w
  omega
theorem z_W_id {x : Int} (h : z_i64 x) : z_W x = x := by
  unfold z_i64 at h
  unfold z_W
  omega
theorem z_w_in (x : Int) : z_i32 (z_w x) := by
  unfold z_i32 z_w
  omega
theorem z_W_in (x : Int) : z_i64 (z_W x) := by
  unfold z_i64 z_W
  omega
theorem z_t32i {x : Int} (h : z_i32 x) : (Int32.ofInt x).toInt = x := (z_t32 x).trans (z_w_id h)
theorem z_t64i {x : Int} (h : z_i64 x) : (Int64.ofInt x).toInt = x := (z_t64 x).trans (z_W_id h)
theorem z_o32 (x : Int) : Int32.ofInt (z_w x) = Int32.ofInt x := Int32.toInt_inj.mp (by rw [z_t32i (z_w_in x), z_t32])
theorem z_o64 (x : Int) : Int64.ofInt (z_W x) = Int64.ofInt x := Int64.toInt_inj.mp (by rw [z_t64i (z_W_in x), z_t64])
theorem z_i32_64 {x : Int} (h : z_i32 x) : z_i64 x := by
  unfold z_i32 at h
  unfold z_i64
  omega
theorem z_nat32 {n : Nat} (h : n < 2147483648) : z_i32 (n : Int) := by
  unfold z_i32
  omega
theorem z_on {n : Nat} : Int32.ofNat n = Int32.ofInt (n : Int) := by
  first | rfl | (simp [Int32.ofInt_eq_ofNat]; done) | exact (Int32.ofInt_natCast n).symm
/-- the index of a place -/
theorem z_ix {i : Int} {n : Nat} (h0 : 0 ≤ i) (h1 : i < (n : Int)) (hn : n < 2147483648) : vp_in (Int32.ofInt i) n ∧ (Int32.ofInt i).toNatClampNeg = i.toNat := by
  have h32 : z_i32 i := by unfold z_i32; omega
  have ht := z_t32i h32
  refine ⟨vp_in_iff.mpr ⟨by rw [ht]; exact h0, by rw [ht]; exact h1⟩, ?_⟩
  show (Int32.ofInt i).toInt.toNat = i.toNat
  rw [ht]
-- values
def z_fv (ad : Int → Option Nat) (t : Nat) (x : Int) : Value := if t = 0 ∨ t = 3 then .int (Int32.ofInt x) else if t = 1 then .long (Int64.ofInt x) else va_rf (ad x)
def z_cv (ad : Int → Option Nat) (v : zV) : Value := z_fv ad v.1 v.2
theorem z_cv0 {ad : Int → Option Nat} (x : Int) : z_cv ad (0, x) = .int (Int32.ofInt x) := rfl
theorem z_cv1 {ad : Int → Option Nat} (x : Int) : z_cv ad (1, x) = .long (Int64.ofInt x) := rfl
theorem z_cv2 {ad : Int → Option Nat} (x : Int) : z_cv ad (2, x) = va_rf (ad x) := rfl
theorem z_cat {ad : Int → Option Nat} {v : zV} (h : v.1 = 0 ∨ v.1 = 2) : (z_cv ad v).category = 1 := by
  obtain ⟨t, x⟩ := v
  rcases h with h | h
  · cases h; rfl
  · cases h
    rw [z_cv2]
    cases ad x <;> rfl
theorem z_catl {ad : Int → Option Nat} {v : zV} (h : v.1 < 3) : (z_cv ad v).category = 2 ↔ v.1 = 1 := by
  obtain ⟨t, x⟩ := v
  match t, h with
  | 0, _ => exact ⟨fun h => (by cases h), fun h => (by cases h)⟩
  | 1, _ => exact ⟨fun _ => rfl, fun _ => rfl⟩
  | 2, _ =>
    rw [z_cv2]
    cases ad x <;> exact ⟨fun h => (by cases h), fun h => (by cases h)⟩
/-- where the cells lie -/
def z_A (ad : Int → Option Nat) (B : Nat) : Prop := ad 0 = none ∧ ∀ k : Nat, ad ((k : Int) + 1) = some (B + k)
def z_cel (ca : Nat → ClassId) (ad : Int → Option Nat) (σ : zS) (a : Int) : va_E :=
  if (σ.2.2.1 a).1 = 9 then .inl (ca 0, (σ.2.2.1 a).2, .inl (fun i => Int32.ofInt (σ.2.2.2 a (i : Int)))) else
  if (σ.2.2.1 a).1 = 10 then .inl (ca 1, (σ.2.2.1 a).2, .inr (.inl (fun i => Int64.ofInt (σ.2.2.2 a (i : Int))))) else
  if (σ.2.2.1 a).1 = 11 then .inl (ca 2, (σ.2.2.1 a).2, .inl (fun i => Int32.ofInt (σ.2.2.2 a (i : Int)))) else
  if (σ.2.2.1 a).1 = 12 then .inl (ca 3, (σ.2.2.1 a).2, .inr (.inr (.inr (.inr (fun i => ad (σ.2.2.2 a (i : Int))))))) else
  .inr ((σ.2.2.1 a).1, (List.range (σ.2.2.1 a).2).map (fun j => z_fv ad (z_mt (σ.2.2.1 a).1 j) (σ.2.2.2 a (j : Int))))
def z_ws (ca : Nat → ClassId) (ad : Int → Option Nat) (B : Nat) (σ : zS) : va_W := (List.range σ.1).map (fun j => (B + j, z_cel ca ad σ ((j : Int) + 1)))
def z_tys (ca : Nat → ClassId) : List (ClassId × FieldType) := [(ca 0, .int), (ca 1, .long), (ca 2, .boolean), (ca 3, .object RX0)]
def z_rng (t : Nat) (x : Int) : Prop := (t = 0 ∨ t = 3 → z_i32 x) ∧ (t = 1 → z_i64 x)
def z_N (ci : Nat) : Nat := (vwCl.getD ci ("", TX0, 0)).2.2
/-- a state is whole: what is a cell was made; lengths; numbers in their ranges -/
def z_ok (σ : zS) : Prop :=
  (∀ a, (σ.2.2.1 a).1 < 13 → a = -1 ∨ (1 ≤ a ∧ a ≤ (σ.1 : Int))) ∧ (∀ a, (σ.2.2.1 a).1 < 9 → (σ.2.2.1 a).2 = z_N (σ.2.2.1 a).1) ∧ (∀ a, (σ.2.2.1 a).2 < 2147483648) ∧ (σ.2.2.1 (-1)).1 = 9 ∧
  ∀ (a : Int) (i : Nat), (σ.2.2.1 a).1 < 13 → z_rng (z_mt (σ.2.2.1 a).1 i) (σ.2.2.2 a (i : Int))
def z_X (ad : Int → Option Nat) (B : Nat) (σ : zS) (U : State) (H : Heap) : Prop := ∃ b : Nat, ad (-1) = some b ∧ b < B ∧ va_X b (σ.2.2.1 (-1)).2 (fun j => Int32.ofInt (σ.2.2.2 (-1) (j : Int))) U H
/-- the three words of the class, and two statics, as they lie below all cells -/
def z_byt : List (List Int32) := [[105, 102], [101, 108, 115, 101], [119, 104, 105, 108, 101]]
def z_E (ad : Int → Option Nat) (B : Nat) (U : State) (H : Heap) : Prop := ∃ adK adV : Nat → Nat, (∀ i : Nat, i < 3 → ad (-2 - (i : Int)) = some (adK i)) ∧ vk_S 3 [2, 4, 5] z_byt adK adV (fun q => B ≤ q) U H ∧ va_Z "java/lang/String" "COMPACT_STRINGS" "Z" (.int 1) (fun q => B ≤ q) U H ∧ va_Zq "jdk/internal/util/Preconditions" "SIOOBE_FORMATTER" "Ljava/util/function/BiFunction;" (fun q => B ≤ q) U H
theorem z_E_moved {ad : Int → Option Nat} {B : Nat} {u U : State} {H : Heap} (hvm : u.vm.Alike U.vm) (h : z_E ad B u H) : z_E ad B U H := by
  obtain ⟨k, v, h1, h2, h3, h4⟩ := h
  exact ⟨k, v, h1, h2.moved hvm, h3.moved hvm, h4.moved hvm⟩
theorem z_E_kept {ad : Int → Option Nat} {B : Nat} {U : State} {H H1 H0 : Heap} {locs locs1 : List Loc} (h : z_E ad B U H) (hB : B ≤ H0.size) (hS : va_S (fun q => B ≤ q) H0 H locs) (hS1 : va_S (fun q => B ≤ q) H0 H1 locs1) : z_E ad B U H1 := by
  have hq : ∀ a : Nat, a < H.size → ¬ B ≤ a → H1[a]? = H[a]? := fun a _ ha => by rw [hS.2.1 a (by omega) ha, hS1.2.1 a (by omega) ha]
  obtain ⟨k, v, h1, h2, h3, h4⟩ := h
  exact ⟨k, v, h1, h2.kept hq, h3.kept hq, h4.kept hq⟩
/-- what is known of the classes -/
def z_U (D : va_G) (ca : Nat → ClassId) (ad : Int → Option Nat) (U : State) : Prop := va_K D vwCl (z_tys ca) U ∧ va_AO RX0 U ∧ ∀ i : Nat, i < 3 → ∃ a : Nat, ad (-2 - (i : Int)) = some a ∧ vk_R RX4 ([85, 91, 93].getD i 0) (["if", "else", "while"].getD i "") a U
theorem z_U_warm {D : va_G} {ca : Nat → ClassId} {ad : Int → Option Nat} {s U : State} (hW : s.WarmedH U.vm) (h : z_U D ca ad s) : z_U D ca ad U := by
  refine ⟨va_K.moved hW.alike h.1, va_AO.moved hW.alike h.2.1, fun i hi => ?_⟩
  obtain ⟨a, h1, h2⟩ := h.2.2 i hi
  exact ⟨a, h1, h2.warm hW⟩
theorem z_U_same {D : va_G} {ca : Nat → ClassId} {ad : Int → Option Nat} {s U : State} (hv : U.vm = s.vm) (h : z_U D ca ad s) : z_U D ca ad U := by
  have hA : s.vm.Alike U.vm := by rw [hv]; exact Vm.Alike.refl _
  refine ⟨va_K.moved hA h.1, va_AO.moved hA h.2.1, fun i hi => ?_⟩
  obtain ⟨a, h1, h2⟩ := h.2.2 i hi
  exact ⟨a, h1, h2.same hv⟩
def z_H (D : va_G) (ca : Nat → ClassId) (ad : Int → Option Nat) (B : Nat) (σ : zS) (U : State) (H : Heap) : Prop :=
  va_P D vwCl (z_ws ca ad B σ) H ∧ z_ok σ ∧ z_X ad B σ U H ∧ z_E ad B U H
def z_L (ad : Int → Option Nat) (nL : Nat) (ls : Array Slot) (ll : List zV) : Prop :=
  ls.size = nL ∧ lv_wf ls ∧ ll.length = nL ∧ (∀ (i : Nat) (v : zV), ll[i]? = some v → v.1 < 3 → ls[i]? = some (.val (z_cv ad v))) ∧ ∀ v ∈ ll, z_okv v
theorem z_ws_get {ca : Nat → ClassId} {ad : Int → Option Nat} {B : Nat} {σ : zS} {j : Nat} (h : j < σ.1) : (z_ws ca ad B σ)[j]? = some (B + j, z_cel ca ad σ ((j : Int) + 1)) := by
  unfold z_ws
  rw [List.getElem?_map, List.getElem?_range h]
  rfl
theorem z_ws_inv {ca : Nat → ClassId} {ad : Int → Option Nat} {B : Nat} {σ : zS} {j : Nat} {q : Nat × va_E} (h : (z_ws ca ad B σ)[j]? = some q) : j < σ.1 ∧ q = (B + j, z_cel ca ad σ ((j : Int) + 1)) := by
  have hl : j < (z_ws ca ad B σ).length := (List.getElem?_eq_some_iff.mp h).1
  have hj : j < σ.1 := by simpa [z_ws] using hl
  rw [z_ws_get hj] at h
  exact ⟨hj, (Option.some.inj h).symm⟩
theorem z_D {ca : Nat → ClassId} {ad : Int → Option Nat} {B : Nat} {σ : zS} : va_D (fun q => B ≤ q) (z_ws ca ad B σ) := by
  refine ⟨fun i j x y hi hj hxy => ?_, fun k x hx => ?_⟩
  · obtain ⟨-, e1⟩ := z_ws_inv hi
    obtain ⟨-, e2⟩ := z_ws_inv hj
    rw [e1, e2] at hxy
    simp only at hxy
    omega
  · obtain ⟨-, e1⟩ := z_ws_inv hx
    rw [e1]
    exact Nat.le_add_right _ _
/-- a cell that was made, by its number -/
theorem z_cell {ca : Nat → ClassId} {ad : Int → Option Nat} {B : Nat} {σ : zS} {a : Int} (hA : z_A ad B) (hok : z_ok σ) (h : (σ.2.2.1 a).1 < 13) (h1 : a ≠ -1) :
    ∃ j : Nat, j < σ.1 ∧ a = (j : Int) + 1 ∧ ad a = some (B + j) ∧ (z_ws ca ad B σ)[j]? = some (B + j, z_cel ca ad σ a) := by
  rcases hok.1 a h with h2 | ⟨h2, h3⟩
  · exact absurd h2 h1
  · have e : a = ((a.toNat - 1 : Nat) : Int) + 1 := by omega
    refine ⟨a.toNat - 1, by omega, e, ?_, ?_⟩
    · have h4 := hA.2 (a.toNat - 1)
      rw [← e] at h4
      exact h4
    · rw [z_ws_get (by omega), ← e]
