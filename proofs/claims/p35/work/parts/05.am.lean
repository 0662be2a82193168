/-! the abstract machine: places for addresses; one step, a path of steps, a run -/
abbrev AL : Type := List (Option Value)
abbrev AWd : Type := (Nat × Nat × Nat) × (Nat → Nat → Int32) × (Nat → Nat → Int64) × (Nat → Nat → Option Nat)
abbrev ASt : Type := Nat × AL × List Value × AWd
def am_NP : Nat := 297
def am_up {α : Type} (f : Nat → Nat → α) (p k : Nat) (x : α) : Nat → Nat → α := fun a b => if a = p then (if b = k then x else f a b) else f a b
def am_row {α : Type} (f : Nat → Nat → α) (p : Nat) (g : Nat → α) : Nat → Nat → α := fun a => if a = p then g else f a
def am_rows {α : Type} (f : Nat → Nat → α) (p n : Nat) (g : Nat → α) : Nat → Nat → α := fun a => if p ≤ a ∧ a < p + n then g else f a
def am_g : AL → Nat → Option Value
  | [], _ => none
  | v :: _, 0 => v
  | _ :: l, n + 1 => am_g l n
def am_s : AL → Nat → Option Value → AL
  | [], _, _ => []
  | _ :: l, 0, v => v :: l
  | u :: l, n + 1, v => u :: am_s l n v
def am_k (lv : AL) (i : Nat) : AL := match i with
  | 0 => lv
  | j + 1 => match am_g lv j with
    | some (.long _) => am_s lv j none
    | some (.double _) => am_s lv j none
    | _ => lv
def am_s1 (lv : AL) (i : Nat) (v : Value) : AL := am_s (am_k lv i) i (some v)
def am_s2 (lv : AL) (i : Nat) (v : Value) : AL := am_s (am_s (am_k lv i) i (some v)) (i + 1) none
/-- the shape of a place: its kind (1 an object of class ..; 2 int[] of ..; 3 boolean[]; 4 long[]; 5 int[][]; 6 Talk[]; 7 Sheet[]) -/
def am_shT (r : Nat) : Nat × Nat := match r with
  | 0 => (1, 4)
  | 1 => (2, 8)
  | 2 => (2, 8)
  | 3 => (2, 12)
  | 4 => (2, 12)
  | 5 => (2, 12)
  | 6 => (2, 12)
  | 7 => (2, 8)
  | 8 => (2, 8)
  | 9 => (5, 8)
  | _ => (2, 6)
def am_shX (r : Nat) : Nat × Nat := match r with
  | 0 => (1, 0)
  | 1 => (2, 12)
  | 2 => (2, 12)
  | 3 => (2, 12)
  | 4 => (2, 100)
  | 5 => (2, 100)
  | 6 => (1, 1)
  | 7 => (4, 12)
  | 8 => (3, 12)
  | 9 => (1, 5)
  | 10 => (2, 90)
  | 11 => (2, 12)
  | 12 => (2, 12)
  | 13 => (7, 4)
  | 14 => (1, 3)
  | 15 => (4, 24)
  | 16 => (1, 3)
  | 17 => (4, 24)
  | 18 => (1, 3)
  | 19 => (4, 24)
  | 20 => (1, 3)
  | 21 => (4, 24)
  | 22 => (1, 7)
  | 23 => (2, 134)
  | 24 => (2, 804)
  | 25 => (2, 134)
  | 26 => (2, 804)
  | 27 => (2, 90)
  | 28 => (2, 4)
  | 29 => (2, 4)
  | 30 => (4, 96)
  | 31 => (4, 24)
  | 32 => (2, 12)
  | 33 => (2, 12)
  | 34 => (3, 12)
  | 35 => (4, 12)
  | 36 => (2, 134)
  | 37 => (2, 24)
  | _ => (0, 0)
def sh (p : Nat) : Nat × Nat :=
  cond (Nat.beq p 0) (1, 6) (cond (Nat.ble p 36) (am_shT ((p - 1) % 18)) (cond (Nat.beq p 37) (1, 2) (cond (Nat.beq p 38) (6, 6)
    (cond (Nat.ble p 164) (am_shT ((p - 39) % 18)) (cond (Nat.beq p 165) (1, 2) (cond (Nat.beq p 166) (6, 6) (cond (Nat.ble p 274) (am_shT ((p - 167) % 18)) (am_shX (p - 275)))))))))
def am_ty (c k : Nat) : FieldType := match c with
  | 0 => tyX0 k
  | 1 => tyX1 k
  | 2 => tyX2 k
  | 3 => tyX3 k
  | 4 => tyX4 k
  | 5 => tyX5 k
  | 6 => tyX6 k
  | _ => tyX7 k
def am_isI (c k : Nat) : Bool := match am_ty c k with
  | .int => true
  | .boolean => true
  | _ => false
def am_isZ (c k : Nat) : Bool := match am_ty c k with
  | .boolean => true
  | _ => false
def am_str (j : Nat) : List Int32 := match j with
  | 0 => [115, 97, 121]
  | 1 => [119, 111, 114, 100]
  | 2 => [102, 114, 97, 109, 101]
  | _ => [119, 105, 110, 100, 111, 119]
def am_slen (j : Nat) : Int32 := match j with
  | 0 => 3
  | 1 => 4
  | 2 => 5
  | _ => 6
abbrev AO : Type := Option (Option Prop × ASt)
def am_ld (nx : Nat) (lv : AL) (st : List Value) (w : AWd) (i : Nat) : AO := match am_g lv i with
  | some (.int x) => some (none, nx, lv, .int x :: st, w)
  | _ => none
def am_ldl (nx : Nat) (lv : AL) (st : List Value) (w : AWd) (i : Nat) : AO := match am_g lv i with
  | some (.long x) => some (none, nx, lv, .long x :: st, w)
  | _ => none
def am_lda (nx : Nat) (lv : AL) (st : List Value) (w : AWd) (i : Nat) : AO := match am_g lv i with
  | some (.ref x) => some (none, nx, lv, .ref x :: st, w)
  | _ => none
def am_sti (nx : Nat) (lv : AL) (st : List Value) (w : AWd) (i : Nat) : AO := match st with
  | .int x :: r => cond (Nat.blt i lv.length) (some (none, nx, am_s1 lv i (.int x), r, w)) none
  | _ => none
def am_stl (nx : Nat) (lv : AL) (st : List Value) (w : AWd) (i : Nat) : AO := match st with
  | .long x :: r => cond (Nat.blt (i + 1) lv.length) (some (none, nx, am_s2 lv i (.long x), r, w)) none
  | _ => none
def am_sta (nx : Nat) (lv : AL) (st : List Value) (w : AWd) (i : Nat) : AO := match st with
  | .ref x :: r => cond (Nat.blt i lv.length) (some (none, nx, am_s1 lv i (.ref x), r, w)) none
  | _ => none
def am_ii (nx : Nat) (lv : AL) (st : List Value) (w : AWd) (f : Int32 → Int32 → Int32) : AO := match st with
  | .int y :: .int x :: r => some (none, nx, lv, .int (f x y) :: r, w)
  | _ => none
def am_ll (nx : Nat) (lv : AL) (st : List Value) (w : AWd) (f : Int64 → Int64 → Int64) : AO := match st with
  | .long y :: .long x :: r => some (none, nx, lv, .long (f x y) :: r, w)
  | _ => none
def am_dv (nx : Nat) (lv : AL) (st : List Value) (w : AWd) (f : Int32 → Int32 → Int32) : AO := match st with
  | .int y :: .int x :: r => some (some (¬ y = 0), nx, lv, .int (f x y) :: r, w)
  | _ => none
def am_dvl (nx : Nat) (lv : AL) (st : List Value) (w : AWd) (f : Int64 → Int64 → Int64) : AO := match st with
  | .long y :: .long x :: r => some (some (¬ y = 0), nx, lv, .long (f x y) :: r, w)
  | _ => none
def am_i1 (nx : Nat) (lv : AL) (st : List Value) (w : AWd) (f : Int32 → Value) : AO := match st with
  | .int x :: r => some (none, nx, lv, f x :: r, w)
  | _ => none
def am_l1 (nx : Nat) (lv : AL) (st : List Value) (w : AWd) (f : Int64 → Value) : AO := match st with
  | .long x :: r => some (none, nx, lv, f x :: r, w)
  | _ => none
def am_br (c : Prop × Prop) (o nx a : Nat) (lv : AL) (r : List Value) (w : AWd) : AO := match o with
  | 0 => some (some c.2, nx, lv, r, w)
  | _ + 1 => some (some c.1, a, lv, r, w)
def am_q1 (c : ClassFile.Cond) (x : Int32) : Prop × Prop := match c with
  | .eq => (x = 0, ¬ x = 0)
  | .ne => (¬ x = 0, x = 0)
  | .lt => (x < 0, ¬ x < 0)
  | .ge => (0 ≤ x, ¬ 0 ≤ x)
  | .gt => (0 < x, ¬ 0 < x)
  | .le => (x ≤ 0, ¬ x ≤ 0)
def am_q2 (c : ClassFile.Cond) (x y : Int32) : Prop × Prop := match c with
  | .eq => (x = y, ¬ x = y)
  | .ne => (¬ x = y, x = y)
  | .lt => (x < y, ¬ x < y)
  | .ge => (y ≤ x, ¬ y ≤ x)
  | .gt => (y < x, ¬ y < x)
  | .le => (x ≤ y, ¬ x ≤ y)
def am_if (c : ClassFile.Cond) (o nx a : Nat) (lv : AL) (st : List Value) (w : AWd) : AO := match st with
  | .int x :: r => am_br (am_q1 c x) o nx a lv r w
  | _ => none
def am_icmp (c : ClassFile.Cond) (o nx a : Nat) (lv : AL) (st : List Value) (w : AWd) : AO := match st with
  | .int y :: .int x :: r => am_br (am_q2 c x y) o nx a lv r w
  | _ => none
def am_to (z : Int) (q : Prop) (lv : AL) (r : List Value) (w : AWd) : AO := match z with
  | .ofNat t => some (some q, t, lv, r, w)
  | _ => none
def am_tsw (df lo hi : Int) (offs : Array Int) (o pc : Nat) (lv : AL) (st : List Value) (w : AWd) : AO := match st with
  | .int x :: r => (match o with
    | 0 => am_to (pc + df) (x.toInt < lo ∨ hi < x.toInt) lv r w
    | j + 1 => (match offs[j]? with
      | some z => am_to (pc + z) (¬ x.toInt < lo ∧ ¬ hi < x.toInt ∧ x.toInt = lo + j) lv r w
      | none => none))
  | _ => none
def am_lsw (df : Int) (ps : Array (Int × Int)) (z : Int) (pc : Nat) (lv : AL) (st : List Value) (w : AWd) : AO := match st with
  | .int x :: r => am_to (pc + z) ((ps.toList.zip (ps.toList.drop 1)).all (fun (a, next) => a.1 < next.1) = true ∧ Op.lookupswitch.offset ps.toList df x.toInt = z) lv r w
  | _ => none
def am_lswz (df : Int) (ps : Array (Int × Int)) (o : Nat) : Int := match o with
  | 0 => df
  | j + 1 => match ps[j]? with
    | some q => q.2
    | none => df
def am_get (c k o nx : Nat) (lv : AL) (st : List Value) (w : AWd) : AO := match st with
  | .ref p :: r => (match am_isI c k with
    | true => some (some (p < w.1.1 ∧ sh p = (1, c)), nx, lv, .int (w.2.1 p k) :: r, w)
    | false => some (some (p < w.1.1 ∧ sh p = (1, c) ∧ w.2.2.2 p k = some o), nx, lv, .ref o :: r, w))
  | _ => none
def am_put (c k nx : Nat) (lv : AL) (st : List Value) (w : AWd) : AO := match am_isI c k with
  | true => (match st with
    | .int x :: .ref p :: r => some (some (p < w.1.1 ∧ sh p = (1, c) ∧ (am_isZ c k = true → x &&& 1 = x)), nx, lv, r, (w.1, am_up w.2.1 p k x, w.2.2))
    | _ => none)
  | false => (match st with
    | .ref q :: .ref p :: r => some (some (p < w.1.1 ∧ sh p = (1, c)), nx, lv, r, (w.1, w.2.1, w.2.2.1, am_up w.2.2.2 p k (some q)))
    | _ => none)
def am_iald (o nx : Nat) (lv : AL) (st : List Value) (w : AWd) : AO := match st with
  | .int i :: .ref p :: r => (match o with
    | 0 => some (some (p < w.1.1 ∧ (sh p).1 = 2 ∧ vp_in i (sh p).2), nx, lv, .int (w.2.1 p i.toNatClampNeg) :: r, w)
    | _ + 1 => some (some (p = 9999 ∧ vp_in i w.1.2.2), nx, lv, .int (w.2.1 p i.toNatClampNeg) :: r, w))
  | _ => none
def am_zald (nx : Nat) (lv : AL) (st : List Value) (w : AWd) : AO := match st with
  | .int i :: .ref p :: r => some (some (p < w.1.1 ∧ (sh p).1 = 3 ∧ vp_in i (sh p).2), nx, lv, .int (w.2.1 p i.toNatClampNeg) :: r, w)
  | _ => none
def am_lald (nx : Nat) (lv : AL) (st : List Value) (w : AWd) : AO := match st with
  | .int i :: .ref p :: r => some (some (p < w.1.1 ∧ (sh p).1 = 4 ∧ vp_in i (sh p).2), nx, lv, .long (w.2.2.1 p i.toNatClampNeg) :: r, w)
  | _ => none
def am_aald (o nx : Nat) (lv : AL) (st : List Value) (w : AWd) : AO := match st with
  | .int i :: .ref p :: r => some (some (p < w.1.1 ∧ ((sh p).1 = 5 ∨ (sh p).1 = 6 ∨ (sh p).1 = 7) ∧ vp_in i (sh p).2 ∧ w.2.2.2 p i.toNatClampNeg = some o), nx, lv, .ref o :: r, w)
  | _ => none
def am_iast (nx : Nat) (lv : AL) (st : List Value) (w : AWd) : AO := match st with
  | .int x :: .int i :: .ref p :: r => some (some (p < w.1.1 ∧ (sh p).1 = 2 ∧ vp_in i (sh p).2), nx, lv, r, (w.1, am_up w.2.1 p i.toNatClampNeg x, w.2.2))
  | _ => none
def am_zast (nx : Nat) (lv : AL) (st : List Value) (w : AWd) : AO := match st with
  | .int x :: .int i :: .ref p :: r => some (some (p < w.1.1 ∧ (sh p).1 = 3 ∧ vp_in i (sh p).2 ∧ x &&& 1 = x), nx, lv, r, (w.1, am_up w.2.1 p i.toNatClampNeg x, w.2.2))
  | _ => none
def am_last (nx : Nat) (lv : AL) (st : List Value) (w : AWd) : AO := match st with
  | .long x :: .int i :: .ref p :: r => some (some (p < w.1.1 ∧ (sh p).1 = 4 ∧ vp_in i (sh p).2), nx, lv, r, (w.1, w.2.1, am_up w.2.2.1 p i.toNatClampNeg x, w.2.2.2))
  | _ => none
def am_aast (nx : Nat) (lv : AL) (st : List Value) (w : AWd) : AO := match st with
  | .ref q :: .int i :: .ref p :: r => some (some (p < w.1.1 ∧ q < w.1.1 ∧ (((sh p).1 = 6 ∧ sh q = (1, 4)) ∨ ((sh p).1 = 7 ∧ sh q = (1, 3))) ∧ vp_in i (sh p).2), nx, lv, r, (w.1, w.2.1, w.2.2.1, am_up w.2.2.2 p i.toNatClampNeg (some q)))
  | _ => none
def am_len (o nx : Nat) (lv : AL) (st : List Value) (w : AWd) : AO := match st with
  | .ref p :: r => some (some (p = 9999), nx, lv, .int (Int32.ofNat w.1.2.2) :: r, w)
  | _ => none
/-- one cell more, of so many slots: its rows are empty -/
def am_mk (w : AWd) (n : Nat) : AWd := ((w.1.1 + 1, w.1.2.1 + n, w.1.2.2), am_row w.2.1 w.1.1 (fun _ => 0), am_row w.2.2.1 w.1.1 (fun _ => 0), am_row w.2.2.2 w.1.1 (fun _ => none))
def am_newa (a nx : Nat) (lv : AL) (st : List Value) (w : AWd) : AO := match st with
  | .int n :: r => some (some (w.1.1 < am_NP ∧ ¬ n < 0 ∧ sh w.1.1 = (a, n.toNatClampNeg) ∧ n.toNatClampNeg ≤ 1000), nx, lv, .ref w.1.1 :: r, am_mk w n.toNatClampNeg)
  | _ => none
def am_new (a nx : Nat) (lv : AL) (st : List Value) (w : AWd) : AO :=
  some (some (w.1.1 < am_NP ∧ sh w.1.1 = (1, a)), nx, lv, .ref w.1.1 :: st, am_mk w (am_N a))
def am_ak (a : Nat) : Nat := match a with
  | 4 => 6
  | 3 => 7
  | _ => 0
/-- new int[8][6] -/
def am_mk2 (w : AWd) : AWd := ((w.1.1 + 9, w.1.2.1 + 56, w.1.2.2), am_rows w.2.1 w.1.1 9 (fun _ => 0), am_rows w.2.2.1 w.1.1 9 (fun _ => 0), am_row (am_rows w.2.2.2 w.1.1 9 (fun _ => none)) w.1.1 (fun i => if i < 8 then some (w.1.1 + 1 + i) else none))
def am_mna (nx : Nat) (lv : AL) (st : List Value) (w : AWd) : AO := match st with
  | .int m :: .int n :: r => some (some (w.1.1 + 9 ≤ am_NP ∧ n = 8 ∧ m = 6 ∧ sh w.1.1 = (5, 8) ∧ ∀ i, i < 8 → sh (w.1.1 + 1 + i) = (2, 6)), nx, lv, .ref w.1.1 :: r, am_mk2 w)
  | _ => none
def am_dup (nx : Nat) (lv : AL) (st : List Value) (w : AWd) : AO := match st with
  | .int x :: r => some (none, nx, lv, .int x :: .int x :: r, w)
  | .ref x :: r => some (none, nx, lv, .ref x :: .ref x :: r, w)
  | _ => none
def am_dup2 (nx : Nat) (lv : AL) (st : List Value) (w : AWd) : AO := match st with
  | .int x :: .ref y :: r => some (none, nx, lv, .int x :: .ref y :: .int x :: .ref y :: r, w)
  | _ => none
def am_pop (nx : Nat) (lv : AL) (st : List Value) (w : AWd) : AO := match st with
  | .int _ :: r => some (none, nx, lv, r, w)
  | _ => none
def am_cpy (o nx : Nat) (lv : AL) (st : List Value) (w : AWd) : AO := match st with
  | .int n :: .int dp :: .ref q :: .int sp :: .ref p :: r => (match o with
    | 0 => some (some (am_NP ≤ w.1.1 ∧ p < w.1.1 ∧ q < w.1.1 ∧ (sh p).1 = 2 ∧ (sh q).1 = 2 ∧ ¬ sp < 0 ∧ ¬ dp < 0 ∧ ¬ n < 0 ∧ sp.toNatClampNeg + n.toNatClampNeg ≤ (sh p).2 ∧ dp.toNatClampNeg + n.toNatClampNeg ≤ (sh q).2), nx, lv, r, (w.1, am_row w.2.1 q (va_cpy (w.2.1 p) (w.2.1 q) sp.toNatClampNeg dp.toNatClampNeg n.toNatClampNeg), w.2.2))
    | _ + 1 => some (some (am_NP ≤ w.1.1 ∧ p < w.1.1 ∧ q < w.1.1 ∧ (sh p).1 = 4 ∧ (sh q).1 = 4 ∧ ¬ sp < 0 ∧ ¬ dp < 0 ∧ ¬ n < 0 ∧ sp.toNatClampNeg + n.toNatClampNeg ≤ (sh p).2 ∧ dp.toNatClampNeg + n.toNatClampNeg ≤ (sh q).2), nx, lv, r, (w.1, w.2.1, am_row w.2.2.1 q (va_cpy (w.2.2.1 p) (w.2.2.1 q) sp.toNatClampNeg dp.toNatClampNeg n.toNatClampNeg), w.2.2.2)))
  | _ => none
def am_vcall (b o nx : Nat) (lv : AL) (st : List Value) (w : AWd) : AO := match b with
  | 12 => (match st with
    | .ref p :: r => some (some (p = 9990 + o ∧ o < 4), nx, lv, .int (am_slen o) :: r, w)
    | _ => none)
  | 13 => (match st with
    | .int i :: .ref p :: r => some (some (p = 9990 + o ∧ o < 4 ∧ vp_in i (am_str o).length), nx, lv, .int ((am_str o).getD i.toNatClampNeg 0) :: r, w)
    | _ => none)
  | _ => none
def am_with (q0 : Prop) (a : AO) : AO := match a with
  | some (none, t) => some (some q0, t)
  | some (some q, t) => some (some (q0 ∧ q), t)
  | none => none
def am_scall (b o nx : Nat) (lv : AL) (st : List Value) (w : AWd) : AO := match b with
  | 6 => am_ii nx lv st w (fun x y => if x < y then y else x)
  | 7 => am_ii nx lv st w (fun x y => if y < x then y else x)
  | 8 => am_i1 nx lv st w (fun x => .int (if 0 ≤ x then x else 0 - x))
  | 9 => am_ll nx lv st w (fun x y => if y < x then x else y)
  | 10 => am_l1 nx lv st w (fun x => .long (if 0 < x then x else -x))
  | 11 => am_cpy o nx lv st w
  | _ => none
def am_icall (b nx : Nat) (lv : AL) (st : List Value) (w : AWd) : AO := match b with
  | 5 => (match st with
    | .ref _ :: r => some (none, nx, lv, r, w)
    | _ => none)
  | _ => none
/-- what a call of the library wants: few words on the stack -/
def am_few (st : List Value) : Prop := (st.map fun v => v.category).sum ≤ 9
def am_iinc (nx i : Nat) (v : Value) (lv : AL) (st : List Value) (w : AWd) : AO := match am_g lv i with
  | some (.int x) => (match v with
    | .int y => some (none, nx, am_s1 lv i (.int (x + y)), st, w)
    | _ => none)
  | _ => none
/-- one step: what must hold for it, and the state behind it; o: which way, or which place comes -/
def ax (e : AE) (o : Nat) (s : ASt) : AO :=
  match e, s with
  | (ins, nx, a, b, _, v), (pc, lv, st, w) => match ins with
    | .iconst _ => some (none, nx, lv, v :: st, w)
    | .bipush _ => some (none, nx, lv, v :: st, w)
    | .sipush _ => some (none, nx, lv, v :: st, w)
    | .lconst _ => some (none, nx, lv, v :: st, w)
    | .ldc _ => some (none, nx, lv, v :: st, w)
    | .ldc_w _ => some (none, nx, lv, v :: st, w)
    | .ldc2_w _ => some (none, nx, lv, v :: st, w)
    | .iload_n k => am_ld nx lv st w k.val
    | .iload k => am_ld nx lv st w k
    | .lload_n k => am_ldl nx lv st w k.val
    | .lload k => am_ldl nx lv st w k
    | .aload_n k => am_lda nx lv st w k.val
    | .istore_n k => am_sti nx lv st w k.val
    | .istore k => am_sti nx lv st w k
    | .lstore_n k => am_stl nx lv st w k.val
    | .lstore k => am_stl nx lv st w k
    | .astore_n k => am_sta nx lv st w k.val
    | .iinc k _ => am_iinc nx k v lv st w
    | .iadd => am_ii nx lv st w (fun x y => x + y)
    | .isub => am_ii nx lv st w (fun x y => x - y)
    | .imul => am_ii nx lv st w (fun x y => x * y)
    | .iand => am_ii nx lv st w (fun x y => x &&& y)
    | .ior => am_ii nx lv st w (fun x y => x ||| y)
    | .ishl => am_ii nx lv st w (fun x y => x <<< (y &&& 31))
    | .ishr => am_ii nx lv st w (fun x y => x >>> (y &&& 31))
    | .iushr => am_ii nx lv st w (fun x y => (x.toUInt32 >>> (y.toUInt32 &&& Int32.toUInt32 31)).toInt32)
    | .idiv => am_dv nx lv st w (fun x y => x / y)
    | .irem => am_dv nx lv st w (fun x y => x - x / y * y)
    | .ineg => am_i1 nx lv st w (fun x => .int (-x))
    | .i2l => am_i1 nx lv st w (fun x => .long x.toInt64)
    | .i2b => am_i1 nx lv st w (fun x => .int x.toInt8.toInt32)
    | .i2s => am_i1 nx lv st w (fun x => .int x.toInt16.toInt32)
    | .l2i => am_l1 nx lv st w (fun x => .int x.toInt32)
    | .lneg => am_l1 nx lv st w (fun x => .long (-x))
    | .ladd => am_ll nx lv st w (fun x y => x + y)
    | .lsub => am_ll nx lv st w (fun x y => x - y)
    | .lmul => am_ll nx lv st w (fun x y => x * y)
    | .land => am_ll nx lv st w (fun x y => x &&& y)
    | .lor => am_ll nx lv st w (fun x y => x ||| y)
    | .ldiv => am_dvl nx lv st w (fun x y => x / y)
    | .lrem => am_dvl nx lv st w (fun x y => x - x / y * y)
    | .lshl => (match st with
      | .int y :: .long x :: r => some (none, nx, lv, .long (x <<< (y.toInt64 &&& 63)) :: r, w)
      | _ => none)
    | .lcmp => (match st with
      | .long y :: .long x :: r => some (none, nx, lv, .int (lg_cmp x y) :: r, w)
      | _ => none)
    | .goto _ => some (none, a, lv, st, w)
    | .ifCond c _ => am_if c o nx a lv st w
    | .if_icmp c _ => am_icmp c o nx a lv st w
    | .tableswitch df lo hi offs => am_tsw df lo hi offs o pc lv st w
    | .lookupswitch df ps => am_lsw df ps (am_lswz df ps o) pc lv st w
    | .getfield _ => am_get a b o nx lv st w
    | .putfield _ => am_put a b nx lv st w
    | .iaload => am_iald o nx lv st w
    | .baload => am_zald nx lv st w
    | .laload => am_lald nx lv st w
    | .aaload => am_aald o nx lv st w
    | .iastore => am_iast nx lv st w
    | .bastore => am_zast nx lv st w
    | .lastore => am_last nx lv st w
    | .aastore => am_aast nx lv st w
    | .arraylength => am_len o nx lv st w
    | .newarray _ => am_newa a nx lv st w
    | .new _ => am_new a nx lv st w
    | .anewarray _ => am_newa (am_ak a) nx lv st w
    | .multianewarray _ _ => am_mna nx lv st w
    | .dup => am_dup nx lv st w
    | .dup2 => am_dup2 nx lv st w
    | .pop => am_pop nx lv st w
    | .invokevirtual _ => am_with (am_few st) (am_vcall b o nx lv st w)
    | .invokestatic _ => am_with (am_few st) (am_scall b o nx lv st w)
    | .invokespecial _ => am_with (am_few st) (am_icall b nx lv st w)
    | _ => none
def am_h (q : Option Prop) : Prop := match q with
  | none => True
  | some q => q
/-- a path of steps: what must hold for all of them together, and the state behind -/
def axs (c : Nat → Option AE) : List Nat → Prop → ASt → Option (Prop × ASt)
  | [], P, s => some (P, s)
  | o :: os, P, s => match c s.1 with
    | none => none
    | some e => match ax e o s with
      | none => none
      | some (none, s') => axs c os P s'
      | some (some q, s') => axs c os (P ∧ q) s'
def am_fill : List Value → AL
  | [] => []
  | .long x :: l => some (.long x) :: none :: am_fill l
  | .double x :: l => some (.double x) :: none :: am_fill l
  | v :: l => some v :: am_fill l
def am_args (n : Nat) (vs : List Value) : AL := am_fill vs ++ List.replicate (n - (am_fill vs).length) none
def am_R (mid : Nat) : Option AR := am_all[mid]?
def am_code (mid pc : Nat) : Option AE := match am_all[mid]? with
  | some r => r.2.2.2.2.2.2.2 pc
  | none => none
/-- the end of a method -/
def am_fin (ret : Option FieldType) (ins : Instr) (s : ASt) (r : Option Value × AWd) : Prop := match ins with
  | .ireturn => ∃ x : Int32, s.2.2.1 = [.int x] ∧ (ret = some .int ∨ (ret = some .boolean ∧ x &&& 1 = x)) ∧ r = (some (.int x), s.2.2.2)
  | .lreturn => ∃ x : Int64, s.2.2.1 = [.long x] ∧ ret = some .long ∧ r = (some (.long x), s.2.2.2)
  | .return_ => s.2.2.1 = [] ∧ ret = none ∧ r = (none, s.2.2.2)
  | _ => False
def am_isCall (ins : Instr) : Bool := match ins with
  | .invokevirtual _ => true
  | .invokestatic _ => true
  | .invokespecial _ => true
  | _ => false
/-- the receiver of a call is an object of the callee's class -/
def am_rcv (b own : Nat) (As : List Value) (w : AWd) : Prop := match b with
  | 0 => ∃ (p : Nat) (l : List Value), As = .ref p :: l ∧ p < w.1.1 ∧ sh p = (1, own)
  | 2 => ∃ (p : Nat) (l : List Value), As = .ref p :: l
  | 4 => ∃ (p : Nat) (l : List Value), As = .ref p :: l
  | _ => True
/-- the depth that a method wants: three leaves of the parser want less -/
def am_lo (mid : Nat) : Nat := cond (Nat.ble 62 mid && Nat.ble mid 64) 5 6
theorem am_lo_5 (mid : Nat) : 5 ≤ am_lo mid := by
  unfold am_lo
  cases (Nat.ble 62 mid && Nat.ble mid 64)
  · show 5 ≤ 6; omega
  · exact Nat.le_refl 5
/-- the run from a state to the end of its method: d the depth that is left -/
def Rn : Nat → Nat → Nat → ASt → Option Value × AWd → Prop
  | 0, _, _, _, _ => False
  | n + 1, d, mid, s, r => am_lo mid ≤ d ∧ ∃ (m : AR) (e : AE), am_all[mid]? = some m ∧ m.2.2.2.2.2.2.2 s.1 = some e ∧
      (am_fin m.2.2.2.1 e.1 s r ∨
       (∃ (o : Nat) (q : Option Prop) (s' : ASt), ax e o s = some (q, s') ∧ am_h q ∧ Rn n d mid s' r) ∨
       (am_isCall e.1 = true ∧ e.2.2.2.1 ≤ 4 ∧ ∃ (k : AR) (As rest : List Value) (d' : Nat) (v : Option Value) (w1 : AWd), am_all[e.2.2.1]? = some k ∧ (d' < d ∧ k.2.2.1 + 19 + 35 * d' ≤ 35 * d) ∧ s.2.2.1 = As.reverse ++ rest ∧ As.length = k.2.2.2.2.2.1 ∧ (am_fill As).length ≤ k.2.2.1 ∧
          am_rcv e.2.2.2.1 k.2.2.2.2.1 As s.2.2.2 ∧ (rest.map fun v => v.category).sum ≤ 8 ∧ Rn n d' e.2.2.1 (0, am_args k.2.2.1 As, [], s.2.2.2) (v, w1) ∧ Rn n d mid (e.2.1, s.2.1, v.toList ++ rest, w1) r))
def Runs (d mid : Nat) (s : ASt) (r : Option Value × AWd) : Prop := ∃ n, Rn n d mid s r
theorem Rn.mono : ∀ (n d d' mid : Nat) (s : ASt) (r : Option Value × AWd), d ≤ d' → Rn n d mid s r → ∀ n', n ≤ n' → Rn n' d' mid s r := by
  intro n
  induction n with
  | zero => intro d d' mid s r _ h; exact h.elim
  | succ n ih =>
    intro d d' mid s r hd h n' hn
    obtain ⟨k, rfl⟩ : ∃ k, n' = k + 1 := ⟨n' - 1, by omega⟩
    obtain ⟨h6, m, e, hm, he, h⟩ := h
    refine ⟨by omega, m, e, hm, he, ?_⟩
    rcases h with h | ⟨o, q, s', h1, h2, h3⟩ | ⟨hc, hb, K, As, rest, d1, v, w1, g1, g2, g3, g4, g4f, g5, g6, g7, g8⟩
    · exact Or.inl h
    · exact Or.inr (Or.inl ⟨o, q, s', h1, h2, ih d d' mid s' r hd h3 k (by omega)⟩)
    · exact Or.inr (Or.inr ⟨hc, hb, K, As, rest, d1, v, w1, g1, by omega, g3, g4, g4f, g5, g6, ih d1 d1 _ _ _ (Nat.le_refl _) g7 k (by omega), ih d d' mid _ r hd g8 k (by omega)⟩)
theorem Runs.mono {d d' mid : Nat} {s : ASt} {r : Option Value × AWd} (hd : d ≤ d') (h : Runs d mid s r) : Runs d' mid s r := by
  obtain ⟨n, h⟩ := h
  exact ⟨n, Rn.mono n d d' mid s r hd h n (Nat.le_refl n)⟩
theorem Runs.step {d mid : Nat} {m : AR} {e : AE} {s s' : ASt} {o : Nat} {q : Option Prop} {r : Option Value × AWd} (h6 : am_lo mid ≤ d) (hm : am_all[mid]? = some m) (he : m.2.2.2.2.2.2.2 s.1 = some e) (hs : ax e o s = some (q, s')) (hq : am_h q) (k : Runs d mid s' r) : Runs d mid s r := by
  obtain ⟨n, h⟩ := k
  exact ⟨n + 1, h6, m, e, hm, he, Or.inr (Or.inl ⟨o, q, s', hs, hq, h⟩)⟩
theorem axs_fwd {c : Nat → Option AE} : ∀ (os : List Nat) (P0 P : Prop) (s s' : ASt), axs c os P0 s = some (P, s') → P → P0 := by
  intro os
  induction os with
  | nil =>
    intro P0 P s s' h hP
    simp only [axs, Option.some.injEq, Prod.mk.injEq] at h
    rw [h.1]; exact hP
  | cons o os ih =>
    intro P0 P s s' h hP
    simp only [axs] at h
    cases he : c s.1 with
    | none => simp [he] at h
    | some e =>
      simp only [he] at h
      cases hx : ax e o s with
      | none => simp [hx] at h
      | some y =>
        obtain ⟨q, s1⟩ := y
        cases q with
        | none => simp only [hx] at h; exact ih _ _ _ _ h hP
        | some q => simp only [hx] at h; exact (ih _ _ _ _ h hP).1
theorem Runs.pathm {d mid : Nat} {m : AR} (h6 : am_lo mid ≤ d) (hm : am_all[mid]? = some m) {r : Option Value × AWd} : ∀ (os : List Nat) (P0 P : Prop) (s s' : ASt), axs m.2.2.2.2.2.2.2 os P0 s = some (P, s') → P → Runs d mid s' r → Runs d mid s r := by
  intro os
  induction os with
  | nil =>
    intro P0 P s s' h hP k
    simp only [axs, Option.some.injEq, Prod.mk.injEq] at h
    rw [h.2]; exact k
  | cons o os ih =>
    intro P0 P s s' h hP k
    simp only [axs] at h
    cases he : m.2.2.2.2.2.2.2 s.1 with
    | none => simp [he] at h
    | some e =>
      simp only [he] at h
      cases hx : ax e o s with
      | none => simp [hx] at h
      | some y =>
        obtain ⟨q, s1⟩ := y
        cases q with
        | none =>
          simp only [hx] at h
          exact Runs.step h6 hm he hx trivial (ih _ _ _ _ h hP k)
        | some q =>
          simp only [hx] at h
          exact Runs.step h6 hm he hx (axs_fwd _ _ _ _ _ h hP).2 (ih _ _ _ _ h hP k)
/-- a path: o way, P what must hold -/
theorem Runs.path {d mid : Nat} {c : Nat → Option AE} (h6 : am_lo mid ≤ d) (hc : ∃ m, am_all[mid]? = some m ∧ m.2.2.2.2.2.2.2 = c) {r : Option Value × AWd} (os : List Nat) {P : Prop} {s s' : ASt} (h : axs c os True s = some (P, s')) (hP : P) (k : Runs d mid s' r) : Runs d mid s r := by
  obtain ⟨m, hm, rfl⟩ := hc
  exact Runs.pathm h6 hm os True P s s' h hP k
/-- a call -/
theorem Runs.call {d mid d' : Nat} {m k : AR} {e : AE} {s : ASt} {r : Option Value × AWd} (h6 : am_lo mid ≤ d) (hm : am_all[mid]? = some m) (he : m.2.2.2.2.2.2.2 s.1 = some e) (hc : am_isCall e.1 = true) (hb : e.2.2.2.1 ≤ 4) (hk : am_all[e.2.2.1]? = some k) (hd : d' < d ∧ k.2.2.1 + 19 + 35 * d' ≤ 35 * d)
    (As rest : List Value) (hst : s.2.2.1 = As.reverse ++ rest) (hn : As.length = k.2.2.2.2.2.1) (hf : (am_fill As).length ≤ k.2.2.1) (hr : am_rcv e.2.2.2.1 k.2.2.2.2.1 As s.2.2.2) (h8 : (rest.map fun v => v.category).sum ≤ 8) {v : Option Value} {w1 : AWd}
    (hx : Runs d' e.2.2.1 (0, am_args k.2.2.1 As, [], s.2.2.2) (v, w1)) (kk : Runs d mid (e.2.1, s.2.1, v.toList ++ rest, w1) r) : Runs d mid s r := by
  obtain ⟨n1, h1⟩ := hx
  obtain ⟨n2, h2⟩ := kk
  exact ⟨max n1 n2 + 1, h6, m, e, hm, he, Or.inr (Or.inr ⟨hc, hb, k, As, rest, d', v, w1, hk, hd, hst, hn, hf, hr, h8, Rn.mono n1 d' d' _ _ _ (Nat.le_refl _) h1 _ (Nat.le_max_left _ _), Rn.mono n2 d d _ _ _ (Nat.le_refl _) h2 _ (Nat.le_max_right _ _)⟩)⟩
/-- an end -/
theorem Runs.fin {d mid : Nat} {m : AR} {e : AE} {s : ASt} {r : Option Value × AWd} (h6 : am_lo mid ≤ d) (hm : am_all[mid]? = some m) (he : m.2.2.2.2.2.2.2 s.1 = some e) (h : am_fin m.2.2.2.1 e.1 s r) : Runs d mid s r := ⟨1, h6, m, e, hm, he, Or.inl h⟩
