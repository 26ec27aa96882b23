/-! THE SMALL MACHINE: values are (tag, number): 0 int, 1 long, 2 reference (0 null, 1 on: the cells in the order of their making, -1 the script), 9 nothing.
A state: how many cells, how many slots, what each cell is (kind, length), what it holds. Kinds 0 to 8: the classes of vwCl; 9 int[], 10 long[], 11 boolean[], 12 Bytes[]. -/
abbrev zV : Type := Nat × Int
abbrev zM : Type := Int → Int → Int
abbrev zS : Type := Nat × Nat × (Int → Nat × Nat) × zM
abbrev zO : Type := Nat × Nat × Int × Int × Int × List (Int × Int)
def z_w (x : Int) : Int := (x + 2147483648) % 4294967296 - 2147483648
def z_W (x : Int) : Int := (x + 9223372036854775808) % 18446744073709551616 - 9223372036854775808
def z_upd (M : zM) (a i v : Int) : zM := fun a' i' => if a' = a ∧ i' = i then v else M a' i'
def z_shu (f : Int → Nat × Nat) (a : Int) (v : Nat × Nat) : Int → Nat × Nat := fun a' => if a' = a then v else f a'
def z_i32 (x : Int) : Prop := -2147483648 ≤ x ∧ x < 2147483648
def z_i64 (x : Int) : Prop := -9223372036854775808 ≤ x ∧ x < 9223372036854775808
def z_okv (v : zV) : Prop := (v.1 = 0 → z_i32 v.2) ∧ (v.1 = 1 → z_i64 v.2)
/-- a field's type by a number: 0 int, 1 long, 2 reference, 3 boolean -/
def z_tag : FieldType → Nat
  | .int => 0
  | .long => 1
  | .boolean => 3
  | _ => 2
def z_tyF (ci : Nat) : Nat → FieldType := match ci with
  | 0 => tyX0
  | 1 => tyX1
  | 2 => tyX2
  | 3 => tyX3
  | 4 => tyX4
  | 5 => tyX5
  | 6 => tyX6
  | 7 => tyX7
  | _ => tyX8
/-- the type of place i of a cell of a kind -/
def z_mt (kind i : Nat) : Nat := match kind with
  | 9 => 0
  | 10 => 1
  | 11 => 3
  | 12 => 2
  | ci => z_tag (z_tyF ci i)
/-- the tag on the stack of a type -/
def z_st (t : Nat) : Nat := if t = 3 then 0 else t
def z_fitv (t : Nat) (x : Int) : Bool := if t = 3 then decide (x = 0 ∨ x = 1) else true
/-- int arithmetic -/
def z_alu (k x y : Int) : Option Int :=
  if k = 0 then some (z_w (x + y)) else
  if k = 1 then some (z_w (x - y)) else
  if k = 2 then some (z_w (x * y)) else
  if k = 3 then (if y = 255 then some (x % 256) else if y = 63 then some (x % 64) else none) else
  if k = 4 then (if y = 0 then some x else if y = 8 then some (x / 256) else if y = 16 then some (x / 65536) else if y = 24 then some (x / 16777216) else none) else
  if k = 5 then (if y = 8 then some (x % 4294967296 / 256) else if y = 16 then some (x % 4294967296 / 65536) else if y = 24 then some (x % 4294967296 / 16777216) else none) else
  if k = 6 then (if y = 0 then none else some (z_w (x.tdiv y))) else none
def z_lalu (k x y : Int) : Option Int :=
  if k = 0 then some (z_W (x + y)) else
  if k = 1 then some (z_W (x - y)) else
  if k = 2 then some (z_W (x * y)) else
  if k = 3 then (if y = 0 then none else some (z_W (x.tdiv y))) else none
def z_cmp (x y : Int) : Int := if y < x then 1 else if x = y then 0 else -1
/-- conditions: 0 eq, 1 ne, 2 lt, 3 ge, 4 gt, 5 le -/
def z_cnd (k x y : Int) : Bool :=
  if k = 0 then decide (x = y) else
  if k = 1 then decide (¬ x = y) else
  if k = 2 then decide (x < y) else
  if k = 3 then decide (y ≤ x) else
  if k = 4 then decide (y < x) else decide (x ≤ y)
def z_sw (d x : Int) : List (Int × Int) → Int
  | [] => d
  | q :: l => if x = q.1 then q.2 else z_sw d x l
/-- may a value be stored at place i: the one ahead of it is no long -/
def z_pre (ll : List zV) : Nat → Bool
  | 0 => true
  | i + 1 => !((ll.getD i (0, 0)).1 == 1)
def z_set (ll : List zV) (i : Nat) (v : zV) : List zV := if v.1 = 1 then (ll.set i v).set (i + 1) (9, 0) else ll.set i v
/-- the three words of the class: -2 if, -3 else, -4 while -/
def z_str (a : Int) : List Int := if a = -2 then [105, 102] else if a = -3 then [101, 108, 115, 101] else [119, 104, 105, 108, 101]
/-- one instruction, but calls and returns: where it goes on, locals, stack, state -/
def z_stp (o : zO) (ll st : List zV) (σ : zS) : Option (Nat × List zV × List zV × zS) :=
  match o, st with
  | (0, n, x, _, _, _), st => some (n, ll, (0, x) :: st, σ)
  | (1, n, i, t, _, _), st => match ll[i.toNat]? with
    | some v => if (v.1 : Int) = t ∧ v.1 < 3 then some (n, ll, v :: st, σ) else none
    | none => none
  | (2, n, i, t, _, _), v :: st => if (v.1 : Int) = t ∧ v.1 < 3 ∧ i.toNat + v.1 % 2 < ll.length ∧ z_pre ll i.toNat = true then some (n, z_set ll i.toNat v, st, σ) else none
  | (3, n, i, k, _, _), st => match ll[i.toNat]? with
    | some (0, x) => if z_pre ll i.toNat = true then some (n, ll.set i.toNat (0, z_w (x + k)), st, σ) else none
    | _ => none
  | (4, n, k, _, _, _), (0, y) :: (0, x) :: st => match z_alu k x y with
    | some z => some (n, ll, (0, z) :: st, σ)
    | none => none
  | (5, n, k, _, _, _), (1, y) :: (1, x) :: st => if k = 4 then some (n, ll, (0, z_cmp x y) :: st, σ) else match z_lalu k x y with
    | some z => some (n, ll, (1, z) :: st, σ)
    | none => none
  | (6, n, k, _, _, _), (t, x) :: st => if t = 0 ∧ k = 0 then some (n, ll, (1, x) :: st, σ) else if t = 1 ∧ k = 1 then some (n, ll, (0, z_w x) :: st, σ) else none
  | (7, n, _, _, _, _), v :: st => if v.1 = 0 ∨ v.1 = 2 then some (n, ll, v :: v :: st, σ) else none
  | (8, n, _, _, _, _), v :: st => if v.1 = 0 ∨ v.1 = 2 then some (n, ll, st, σ) else none
  | (9, n, _, _, _, _), v :: w :: st => if (v.1 = 0 ∨ v.1 = 2) ∧ (w.1 = 0 ∨ w.1 = 2) then some (n, ll, v :: w :: v :: w :: st, σ) else none
  | (10, n, k, t, _, _), (0, x) :: st => some (if z_cnd k x 0 then t.toNat else n, ll, st, σ)
  | (11, n, k, t, _, _), (0, y) :: (0, x) :: st => some (if z_cnd k x y then t.toNat else n, ll, st, σ)
  | (12, _, t, _, _, _), st => some (t.toNat, ll, st, σ)
  | (13, _, d, _, _, l), (0, x) :: st => some ((z_sw d x l).toNat, ll, st, σ)
  | (14, _, d, _, _, l), (0, x) :: st => some ((z_sw d x l).toNat, ll, st, σ)
  | (15, n, ci, k, t, _), (2, a) :: st => if ((σ.2.2.1 a).1 : Int) = ci then some (n, ll, (z_st t.toNat, σ.2.2.2 a k) :: st, σ) else none
  | (16, n, ci, k, t, _), (u, x) :: (2, a) :: st => if ((σ.2.2.1 a).1 : Int) = ci ∧ u = z_st t.toNat ∧ z_fitv t.toNat x = true then some (n, ll, st, (σ.1, σ.2.1, σ.2.2.1, z_upd σ.2.2.2 a k x)) else none
  | (17, n, kd, _, _, _), (0, i) :: (2, a) :: st => if ((σ.2.2.1 a).1 : Int) = kd ∧ 0 ≤ i ∧ i < ((σ.2.2.1 a).2 : Int) then some (n, ll, (z_st (z_mt kd.toNat 0), σ.2.2.2 a i) :: st, σ) else none
  | (18, n, kd, _, _, _), (u, x) :: (0, i) :: (2, a) :: st => if ((σ.2.2.1 a).1 : Int) = kd ∧ 0 < a ∧ 0 ≤ i ∧ i < ((σ.2.2.1 a).2 : Int) ∧ u = z_st (z_mt kd.toNat 0) ∧ z_fitv (z_mt kd.toNat 0) x = true ∧ (kd = 12 → (σ.2.2.1 x).1 = 0) then some (n, ll, st, (σ.1, σ.2.1, σ.2.2.1, z_upd σ.2.2.2 a i x)) else none
  | (19, n, _, _, _, _), (2, a) :: st => if 9 ≤ (σ.2.2.1 a).1 ∧ (σ.2.2.1 a).1 ≤ 12 then some (n, ll, (0, ((σ.2.2.1 a).2 : Int)) :: st, σ) else none
  | (20, n, ci, w, _, _), st => some (n, ll, (2, (σ.1 : Int) + 1) :: st, (σ.1 + 1, σ.2.1 + w.toNat, z_shu σ.2.2.1 ((σ.1 : Int) + 1) (ci.toNat, w.toNat), fun a i => if a = (σ.1 : Int) + 1 then 0 else σ.2.2.2 a i))
  | (22, n, _, _, _, _), (0, x) :: st => if 0 ≤ x ∧ x ≤ 4000 then some (n, ll, (2, (σ.1 : Int) + 1) :: st, (σ.1 + 1, σ.2.1 + x.toNat, z_shu σ.2.2.1 ((σ.1 : Int) + 1) (12, x.toNat), fun a i => if a = (σ.1 : Int) + 1 then 0 else σ.2.2.2 a i)) else none
  | (21, n, kd, _, _, _), (0, x) :: st => if 0 ≤ x ∧ x ≤ 4000 then some (n, ll, (2, (σ.1 : Int) + 1) :: st, (σ.1 + 1, σ.2.1 + x.toNat, z_shu σ.2.2.1 ((σ.1 : Int) + 1) (kd.toNat, x.toNat), fun a i => if a = (σ.1 : Int) + 1 then 0 else σ.2.2.2 a i)) else none
  | (23, n, _, _, _, _), (2, a) :: st => if 0 < a ∧ (σ.2.2.1 a).1 < 9 ∧ st.length ≤ 4 then some (n, ll, st, σ) else none
  | (24, n, x, _, _, _), st => some (n, ll, (1, x) :: st, σ)
  | (28, n, k, _, _, _), (0, y) :: (0, x) :: st => if 4 < st.length then none else if k = 0 then some (n, ll, (0, if x < y then y else x) :: st, σ) else some (n, ll, (0, if y < x then y else x) :: st, σ)
  | (29, n, j, _, _, _), st => if 0 ≤ j ∧ j < 3 then some (n, ll, (2, -2 - j) :: st, σ) else none
  | (30, n, _, _, _, _), (2, a) :: st => if -4 ≤ a ∧ a ≤ -2 ∧ st.length ≤ 4 then some (n, ll, (0, ((z_str a).length : Int)) :: st, σ) else none
  | (31, n, _, _, _, _), (0, i) :: (2, a) :: st => if -4 ≤ a ∧ a ≤ -2 ∧ 0 ≤ i ∧ i < ((z_str a).length : Int) ∧ st.length ≤ 4 then some (n, ll, (0, (z_str a).getD i.toNat 0) :: st, σ) else none
  | _, _ => none
/-- a method's locals at its start -/
def z_sl (vs : List zV) : List zV := vs.flatMap fun v => if v.1 = 1 then [v, (9, 0)] else [v]
def z_ent (maxL : Nat) (vs : List zV) : List zV := z_sl vs ++ List.replicate (maxL - (z_sl vs).length) (9, 0)
/-- what a return gives: the type t of the method (4: nothing) -/
def z_ret (t : Int) (st : List zV) : Option (Option zV) :=
  match st with
  | [] => if t = 4 then some none else none
  | [v] => if 0 ≤ t ∧ t < 4 ∧ v.1 = z_st t.toNat ∧ z_fitv t.toNat v.2 = true then some (some v) else none
  | _ => none
/-- how much room a stack takes -/
def z_cs : List zV → Nat
  | [] => 0
  | v :: l => (if v.1 = 1 then 2 else 1) + z_cs l
/-- is the first argument a cell of the kind that a call wants -/
def z_rcv (σ : zS) (kd : Int) (as : List zV) : Bool := if kd = -1 then true else match as with
  | (2, a) :: _ => decide (0 < a ∧ ((σ.2.2.1 a).1 : Int) = kd)
  | _ => false
/-- the machine: code, locals' number of each method; fuel, depth, method, place -/
def z_ex (cd : Nat → Nat → zO) (ml : Nat → Nat) : Nat → Nat → Nat → Nat → List zV → List zV → zS → Option (Option zV × zS)
  | 0, _, _, _, _, _, _ => none
  | f + 1, d, m, pc, ll, st, σ =>
    match cd m pc with
    | (25, n, k, na, kd, _) => match d with
      | 0 => none
      | d' + 1 => if na.toNat ≤ st.length ∧ z_cs (st.drop na.toNat) ≤ 8 ∧ z_rcv σ kd (st.take na.toNat).reverse = true ∧ (z_sl (st.take na.toNat).reverse).length ≤ ml k.toNat ∧ (st.take na.toNat).all (fun v => decide (v.1 < 3)) = true then
          match z_ex cd ml f d' k.toNat 0 (z_ent (ml k.toNat) (st.take na.toNat).reverse) [] σ with
          | some (rv, σ1) => z_ex cd ml f d m n ll (rv.toList ++ st.drop na.toNat) σ1
          | none => none
        else none
    | (26, _, t, _, _, _) => match z_ret t st with
      | some rv => some (rv, σ)
      | none => none
    | o => if o.1 < 30 ∨ 5 ≤ d then match z_stp o ll st σ with
      | some (pc', ll', st', σ') => z_ex cd ml f d m pc' ll' st' σ'
      | none => none
      else none
