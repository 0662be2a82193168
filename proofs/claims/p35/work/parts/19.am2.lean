/-! the second abstract machine: whole numbers for ints and longs; what wants a range says so -/
abbrev V2 : Type := Int ⊕ (Int ⊕ Nat)
abbrev vi (z : Int) : V2 := .inl z
abbrev vj (z : Int) : V2 := .inr (.inl z)
abbrev vr (p : Nat) : V2 := .inr (.inr p)
abbrev L2 : Type := List (Option V2)
abbrev W2 : Type := (Nat × Nat × Nat) × (Nat → Nat → Int) × (Nat → Nat → Int) × (Nat → Nat → Option Nat)
abbrev S2 : Type := Nat × L2 × List V2 × W2
def lV (v : V2) : Value := match v with
  | .inl z => .int (Int32.ofInt z)
  | .inr (.inl z) => .long (Int64.ofInt z)
  | .inr (.inr p) => .ref p
def lW (w : W2) : AWd := (w.1, (fun p k => Int32.ofInt (w.2.1 p k)), (fun p k => Int64.ofInt (w.2.2.1 p k)), w.2.2.2)
abbrev R32 (z : Int) : Prop := -2147483648 ≤ z ∧ z ≤ 2147483647
abbrev R64 (z : Int) : Prop := -9223372036854775808 ≤ z ∧ z ≤ 9223372036854775807
def y_g : L2 → Nat → Option V2
  | [], _ => none
  | v :: _, 0 => v
  | _ :: l, n + 1 => y_g l n
def y_s : L2 → Nat → Option V2 → L2
  | [], _, _ => []
  | _ :: l, 0, v => v :: l
  | u :: l, n + 1, v => u :: y_s l n v
def y_k (lv : L2) (i : Nat) : L2 := match i with
  | 0 => lv
  | j + 1 => match y_g lv j with
    | some (.inr (.inl _)) => y_s lv j none
    | _ => lv
def y_s1 (lv : L2) (i : Nat) (v : V2) : L2 := y_s (y_k lv i) i (some v)
def y_s2 (lv : L2) (i : Nat) (v : V2) : L2 := y_s (y_s (y_k lv i) i (some v)) (i + 1) none
def Lr (l2 : L2) (l : AL) : Prop := l2.length = l.length ∧ ∀ (i : Nat) (v : V2), y_g l2 i = some v → am_g l i = some (lV v)
theorem y_g_s : ∀ (l : L2) (i j : Nat) (x : Option V2), y_g (y_s l i x) j = if j = i ∧ i < l.length then x else y_g l j := by
  intro l
  induction l with
  | nil => intro i j x; simp [y_s]
  | cons u l ih =>
    intro i j x
    cases i with
    | zero => cases j <;> simp [y_s, y_g]
    | succ i =>
      cases j with
      | zero => simp [y_s, y_g]
      | succ j => simp [y_s, y_g, ih]
theorem y_s_len : ∀ (l : L2) (i : Nat) (x : Option V2), (y_s l i x).length = l.length := by
  intro l
  induction l with
  | nil => intro i x; rfl
  | cons u l ih =>
    intro i x
    cases i with
    | zero => rfl
    | succ i => simp [y_s, ih]
theorem y_k_len (l : L2) (i : Nat) : (y_k l i).length = l.length := by
  unfold y_k
  split
  · rfl
  · split <;> simp [y_s_len]
theorem y_g_lt : ∀ (l : L2) (i : Nat) (v : V2), y_g l i = some v → i < l.length := by
  intro l
  induction l with
  | nil => intro i v h; cases h
  | cons u l ih =>
    intro i v h
    cases i with
    | zero => simp
    | succ i => have := ih i v h; simp; omega
theorem y_g_k {l : L2} {i j : Nat} {v : V2} (h : y_g (y_k l i) j = some v) : y_g l j = some v ∧ ¬ (j + 1 = i ∧ ∃ z, v = .inr (.inl z)) := by
  unfold y_k at h
  split at h
  · exact ⟨h, by omega⟩
  · rename_i i'
    split at h
    · rename_i x hx
      rw [y_g_s] at h
      split at h
      · cases h
      · rename_i hn
        exact ⟨h, fun ⟨e, _⟩ => hn ⟨by omega, y_g_lt _ _ _ hx⟩⟩
    · rename_i h1
      refine ⟨h, fun ⟨e, z, hz⟩ => ?_⟩
      have e' : j = i' := by omega
      subst e'
      rw [hz] at h
      exact h1 z h
theorem am_g_kof {l : AL} {i j : Nat} {v : Value} (h : am_g l j = some v) (hn : ¬ (j + 1 = i ∧ v.category = 2)) : am_g (am_k l i) j = some v := by
  unfold am_k
  split
  · exact h
  · rename_i i'
    split
    · rename_i x hx
      rw [am_g_s]
      rw [if_neg]
      · exact h
      · rintro ⟨e, -⟩
        subst e
        rw [h] at hx
        cases hx
        exact hn ⟨rfl, rfl⟩
    · rename_i x hx
      rw [am_g_s]
      rw [if_neg]
      · exact h
      · rintro ⟨e, -⟩
        subst e
        rw [h] at hx
        cases hx
        exact hn ⟨rfl, rfl⟩
    · exact h
theorem lV_cat {v : V2} (h : (lV v).category = 2) : ∃ z, v = .inr (.inl z) := by
  match v with
  | .inl z => cases h
  | .inr (.inl z) => exact ⟨z, rfl⟩
  | .inr (.inr p) => cases h
theorem Lr.st1 {l2 : L2} {l : AL} (h : Lr l2 l) (i : Nat) (v : V2) : Lr (y_s1 l2 i v) (am_s1 l i (lV v)) := by
  refine ⟨by rw [y_s1, am_s1, y_s_len, am_s_len, y_k_len, am_k_len]; exact h.1, fun j u hj => ?_⟩
  rw [y_s1, y_g_s, y_k_len] at hj
  rw [am_s1, am_g_s, am_k_len, ← h.1]
  split at hj
  · rename_i e
    rw [if_pos e]
    cases hj
    rfl
  · rename_i e
    rw [if_neg e]
    obtain ⟨h1, h2⟩ := y_g_k hj
    exact am_g_kof (h.2 j u h1) (fun ⟨q, c⟩ => h2 ⟨q, lV_cat c⟩)
theorem Lr.st2 {l2 : L2} {l : AL} (h : Lr l2 l) (i : Nat) (v : V2) : Lr (y_s2 l2 i v) (am_s2 l i (lV v)) := by
  refine ⟨by rw [y_s2, am_s2, y_s_len, am_s_len, y_s_len, am_s_len, y_k_len, am_k_len]; exact h.1, fun j u hj => ?_⟩
  rw [y_s2, y_g_s, y_s_len, y_k_len] at hj
  rw [am_s2, am_g_s, am_s_len, am_k_len, ← h.1]
  split at hj
  · cases hj
  · rename_i e
    rw [if_neg e]
    exact (Lr.st1 h i v).2 j u hj
/-- of some of what is known of the locals -/
def Lle : L2 → L2 → Prop
  | [], [] => True
  | none :: a, _ :: b => Lle a b
  | some u :: a, v :: b => v = some u ∧ Lle a b
  | _, _ => False
theorem Lle.lr : ∀ {a b : L2} {l : AL}, Lle a b → Lr b l → Lr a l := by
  intro a
  induction a with
  | nil =>
    intro b l h hl
    cases b with
    | nil => exact hl
    | cons v b => exact h.elim
  | cons u a ih =>
    intro b l h hl
    cases b with
    | nil => cases u <;> exact h.elim
    | cons v b =>
      cases l with
      | nil => have := hl.1; simp at this
      | cons y l =>
        have ht : Lr b l := ⟨by have := hl.1; simp at this; exact this, fun i v hv => hl.2 (i + 1) v hv⟩
        cases u with
        | none =>
          have := ih h ht
          refine ⟨by have := this.1; simp [this], fun i v hv => ?_⟩
          cases i with
          | zero => cases hv
          | succ i => exact this.2 i v hv
        | some u =>
          obtain ⟨rfl, h⟩ := h
          have := ih h ht
          refine ⟨by have := this.1; simp [this], fun i v hv => ?_⟩
          cases i with
          | zero => exact hl.2 0 v hv
          | succ i => exact this.2 i v hv
/-! numbers -/
theorem y_ti {z : Int} (h : R32 z) : (Int32.ofInt z).toInt = z := Int32.toInt_ofInt_of_le (by have := h.1; omega) (by have := h.2; omega)
theorem y_tj {z : Int} (h : R64 z) : (Int64.ofInt z).toInt = z := Int64.toInt_ofInt_of_le (by have := h.1; omega) (by have := h.2; omega)
theorem y_lt {x y : Int} (hx : R32 x) (hy : R32 y) : Int32.ofInt x < Int32.ofInt y ↔ x < y := by
  rw [Int32.lt_iff_toInt_lt, y_ti hx, y_ti hy]
theorem y_le {x y : Int} (hx : R32 x) (hy : R32 y) : Int32.ofInt x ≤ Int32.ofInt y ↔ x ≤ y := by
  rw [Int32.le_iff_toInt_le, y_ti hx, y_ti hy]
theorem y_eq {x y : Int} (hx : R32 x) (hy : R32 y) : Int32.ofInt x = Int32.ofInt y ↔ x = y := by
  rw [← Int32.toInt_inj, y_ti hx, y_ti hy]
theorem y_ltj {x y : Int} (hx : R64 x) (hy : R64 y) : Int64.ofInt x < Int64.ofInt y ↔ x < y := by
  rw [Int64.lt_iff_toInt_lt, y_tj hx, y_tj hy]
theorem y_eqj {x y : Int} (hx : R64 x) (hy : R64 y) : Int64.ofInt x = Int64.ofInt y ↔ x = y := by
  rw [← Int64.toInt_inj, y_tj hx, y_tj hy]
theorem y_cl {x : Int} (hx : R32 x) : (Int32.ofInt x).toNatClampNeg = x.toNat := by
  show (Int32.ofInt x).toInt.toNat = _
  rw [y_ti hx]
theorem y_0 : (0 : Int32) = Int32.ofInt 0 := rfl
theorem y_0j : (0 : Int64) = Int64.ofInt 0 := rfl
theorem y_r0 : R32 0 := ⟨by decide, by decide⟩
theorem y_r0j : R64 0 := ⟨by decide, by decide⟩
theorem y_in {x : Int} {n : Nat} (hr : R32 x) (h0 : 0 ≤ x) (h1 : x < n) : vp_in (Int32.ofInt x) n := by
  rw [vp_in_iff, y_ti hr]
  exact ⟨h0, h1⟩
theorem y_div {x y : Int} (hx : R32 x) (hy : R32 y) (h0 : 0 ≤ x) : Int32.ofInt x / Int32.ofInt y = Int32.ofInt (x / y) := by
  have := Int32.ofInt_tdiv (a := x) (b := y) (by have := hx.1; have : Int32.minValue.toInt = -2147483648 := by decide
                                                 omega) (by have := hx.2; have : Int32.maxValue.toInt = 2147483647 := by decide
                                                            omega) (by have := hy.1; have : Int32.minValue.toInt = -2147483648 := by decide
                                                                       omega) (by have := hy.2; have : Int32.maxValue.toInt = 2147483647 := by decide
                                                                                  omega)
  rw [← this, Int.tdiv_eq_ediv_of_nonneg h0]
theorem y_divj {x y : Int} (hx : R64 x) (hy : R64 y) (h0 : 0 ≤ x) : Int64.ofInt x / Int64.ofInt y = Int64.ofInt (x / y) := by
  have := Int64.ofInt_tdiv (a := x) (b := y) (by have := hx.1; have : Int64.minValue.toInt = -9223372036854775808 := by decide
                                                 omega) (by have := hx.2; have : Int64.maxValue.toInt = 9223372036854775807 := by decide
                                                            omega) (by have := hy.1; have : Int64.minValue.toInt = -9223372036854775808 := by decide
                                                                       omega) (by have := hy.2; have : Int64.maxValue.toInt = 9223372036854775807 := by decide
                                                                                  omega)
  rw [← this, Int.tdiv_eq_ediv_of_nonneg h0]
theorem y_up (F : Nat → Nat → Int) (p k : Nat) (x : Int) : (fun a b => Int32.ofInt (am_up F p k x a b)) = am_up (fun a b => Int32.ofInt (F a b)) p k (Int32.ofInt x) := by
  funext a b
  unfold am_up
  split
  · split <;> rfl
  · rfl
theorem y_upj (F : Nat → Nat → Int) (p k : Nat) (x : Int) : (fun a b => Int64.ofInt (am_up F p k x a b)) = am_up (fun a b => Int64.ofInt (F a b)) p k (Int64.ofInt x) := by
  funext a b
  unfold am_up
  split
  · split <;> rfl
  · rfl
theorem y_row {α : Type} (c : Int → α) (F : Nat → Nat → Int) (p : Nat) (g : Nat → Int) : (fun a b => c (am_row F p g a b)) = am_row (fun a b => c (F a b)) p (fun b => c (g b)) := by
  funext a b
  unfold am_row
  split <;> rfl
theorem y_rows {α : Type} (c : Int → α) (F : Nat → Nat → Int) (p n : Nat) (g : Nat → Int) : (fun a b => c (am_rows F p n g a b)) = am_rows (fun a b => c (F a b)) p n (fun b => c (g b)) := by
  funext a b
  unfold am_rows
  split <;> rfl
theorem y_cpy {α : Type} (c : Int → α) (f g : Nat → Int) (a b n : Nat) : (fun k => c (va_cpy f g a b n k)) = va_cpy (fun k => c (f k)) (fun k => c (g k)) a b n := by
  funext k
  unfold va_cpy
  split <;> rfl
theorem sh_lt (p : Nat) : (sh p).2 < 1000 := by
  have ht : ∀ r, (am_shT r).2 < 1000 := by
    intro r
    unfold am_shT
    split <;> decide
  have hx : ∀ r, (am_shX r).2 < 1000 := by
    intro r
    unfold am_shX
    split <;> decide
  have hc : ∀ (b : Bool) (x y : Nat × Nat), x.2 < 1000 → y.2 < 1000 → (cond b x y).2 < 1000 := by
    intro b x y h1 h2
    cases b
    · exact h2
    · exact h1
  unfold sh
  exact hc _ _ _ (by decide) (hc _ _ _ (ht _) (hc _ _ _ (by decide) (hc _ _ _ (by decide) (hc _ _ _ (ht _) (hc _ _ _ (by decide) (hc _ _ _ (by decide) (hc _ _ _ (ht _) (hx _))))))))
theorem y_rsh {x : Int} {p : Nat} (h0 : 0 ≤ x) (h : x < (sh p).2) : R32 x := by
  have := sh_lt p
  exact ⟨by omega, by omega⟩
/-! the steps -/
abbrev YO : Type := Option (Option Prop × S2)
def y_c (nx : Nat) (lv : L2) (st : List V2) (w : W2) (v : Value) : YO := match v with
  | .int c => some (none, nx, lv, .inl c.toInt :: st, w)
  | .long c => some (none, nx, lv, .inr (.inl c.toInt) :: st, w)
  | .ref p => some (none, nx, lv, .inr (.inr p) :: st, w)
  | _ => none
def y_ld (nx : Nat) (lv : L2) (st : List V2) (w : W2) (i : Nat) : YO := match y_g lv i with
  | some (.inl x) => some (none, nx, lv, .inl x :: st, w)
  | _ => none
def y_ldl (nx : Nat) (lv : L2) (st : List V2) (w : W2) (i : Nat) : YO := match y_g lv i with
  | some (.inr (.inl x)) => some (none, nx, lv, .inr (.inl x) :: st, w)
  | _ => none
def y_lda (nx : Nat) (lv : L2) (st : List V2) (w : W2) (i : Nat) : YO := match y_g lv i with
  | some (.inr (.inr x)) => some (none, nx, lv, .inr (.inr x) :: st, w)
  | _ => none
def y_sti (nx : Nat) (lv : L2) (st : List V2) (w : W2) (i : Nat) : YO := match st with
  | .inl x :: r => cond (Nat.blt i lv.length) (some (none, nx, y_s1 lv i (.inl x), r, w)) none
  | _ => none
def y_stl (nx : Nat) (lv : L2) (st : List V2) (w : W2) (i : Nat) : YO := match st with
  | .inr (.inl x) :: r => cond (Nat.blt (i + 1) lv.length) (some (none, nx, y_s2 lv i (.inr (.inl x)), r, w)) none
  | _ => none
def y_sta (nx : Nat) (lv : L2) (st : List V2) (w : W2) (i : Nat) : YO := match st with
  | .inr (.inr x) :: r => cond (Nat.blt i lv.length) (some (none, nx, y_s1 lv i (.inr (.inr x)), r, w)) none
  | _ => none
def y_ii (nx : Nat) (lv : L2) (st : List V2) (w : W2) (q : Int → Int → Option Prop) (f : Int → Int → Int) : YO := match st with
  | .inl y :: .inl x :: r => some (q x y, nx, lv, .inl (f x y) :: r, w)
  | _ => none
def y_ll (nx : Nat) (lv : L2) (st : List V2) (w : W2) (q : Int → Int → Option Prop) (f : Int → Int → Int) : YO := match st with
  | .inr (.inl y) :: .inr (.inl x) :: r => some (q x y, nx, lv, .inr (.inl (f x y)) :: r, w)
  | _ => none
def y_i1 (nx : Nat) (lv : L2) (st : List V2) (w : W2) (q : Int → Option Prop) (f : Int → V2) : YO := match st with
  | .inl x :: r => some (q x, nx, lv, f x :: r, w)
  | _ => none
def y_l1 (nx : Nat) (lv : L2) (st : List V2) (w : W2) (q : Int → Option Prop) (f : Int → V2) : YO := match st with
  | .inr (.inl x) :: r => some (q x, nx, lv, f x :: r, w)
  | _ => none
def y_no (_ : Int) : Option Prop := none
def y_nn (_ _ : Int) : Option Prop := none
def y_q1 (c : ClassFile.Cond) (x : Int) : Prop × Prop := match c with
  | .eq => (x = 0, ¬ x = 0)
  | .ne => (¬ x = 0, x = 0)
  | .lt => (x < 0, ¬ x < 0)
  | .ge => (0 ≤ x, ¬ 0 ≤ x)
  | .gt => (0 < x, ¬ 0 < x)
  | .le => (x ≤ 0, ¬ x ≤ 0)
def y_q2 (c : ClassFile.Cond) (x y : Int) : Prop × Prop := match c with
  | .eq => (x = y, ¬ x = y)
  | .ne => (¬ x = y, x = y)
  | .lt => (x < y, ¬ x < y)
  | .ge => (y ≤ x, ¬ y ≤ x)
  | .gt => (y < x, ¬ y < x)
  | .le => (x ≤ y, ¬ x ≤ y)
def y_br (R : Prop) (c : Prop × Prop) (o nx a : Nat) (lv : L2) (r : List V2) (w : W2) : YO := match o with
  | 0 => some (some (R ∧ c.2), nx, lv, r, w)
  | _ + 1 => some (some (R ∧ c.1), a, lv, r, w)
def y_if (c : ClassFile.Cond) (o nx a : Nat) (lv : L2) (st : List V2) (w : W2) : YO := match st with
  | .inl x :: r => y_br (R32 x) (y_q1 c x) o nx a lv r w
  | _ => none
def y_icmp (c : ClassFile.Cond) (o nx a : Nat) (lv : L2) (st : List V2) (w : W2) : YO := match st with
  | .inl y :: .inl x :: r => y_br (R32 x ∧ R32 y) (y_q2 c x y) o nx a lv r w
  | _ => none
def y_to (z : Int) (q : Prop) (lv : L2) (r : List V2) (w : W2) : YO := match z with
  | .ofNat t => some (some q, t, lv, r, w)
  | _ => none
def y_tsw (df lo hi : Int) (offs : Array Int) (o pc : Nat) (lv : L2) (st : List V2) (w : W2) : YO := match st with
  | .inl x :: r => (match o with
    | 0 => y_to (pc + df) (R32 x ∧ (x < lo ∨ hi < x)) lv r w
    | j + 1 => (match offs[j]? with
      | some z => y_to (pc + z) (R32 x ∧ ¬ x < lo ∧ ¬ hi < x ∧ x = lo + j) lv r w
      | none => none))
  | _ => none
def y_lsw (df : Int) (ps : Array (Int × Int)) (z : Int) (pc : Nat) (lv : L2) (st : List V2) (w : W2) : YO := match st with
  | .inl x :: r => y_to (pc + z) (R32 x ∧ (ps.toList.zip (ps.toList.drop 1)).all (fun (a, next) => a.1 < next.1) = true ∧ Op.lookupswitch.offset ps.toList df x = z) lv r w
  | _ => none
def y_get (c k o nx : Nat) (lv : L2) (st : List V2) (w : W2) : YO := match st with
  | .inr (.inr p) :: r => (match am_isI c k with
    | true => some (some (p < w.1.1 ∧ sh p = (1, c)), nx, lv, .inl (w.2.1 p k) :: r, w)
    | false => some (some (p < w.1.1 ∧ sh p = (1, c) ∧ w.2.2.2 p k = some o), nx, lv, .inr (.inr o) :: r, w))
  | _ => none
def y_put (c k nx : Nat) (lv : L2) (st : List V2) (w : W2) : YO := match am_isI c k with
  | true => (match st with
    | .inl x :: .inr (.inr p) :: r => some (some (p < w.1.1 ∧ sh p = (1, c) ∧ (am_isZ c k = true → x = 0 ∨ x = 1)), nx, lv, r, (w.1, am_up w.2.1 p k x, w.2.2))
    | _ => none)
  | false => (match st with
    | .inr (.inr q) :: .inr (.inr p) :: r => some (some (p < w.1.1 ∧ sh p = (1, c)), nx, lv, r, (w.1, w.2.1, w.2.2.1, am_up w.2.2.2 p k (some q)))
    | _ => none)
def y_iald (o nx : Nat) (lv : L2) (st : List V2) (w : W2) : YO := match st with
  | .inl i :: .inr (.inr p) :: r => (match o with
    | 0 => some (some (p < w.1.1 ∧ (sh p).1 = 2 ∧ 0 ≤ i ∧ i < (sh p).2), nx, lv, .inl (w.2.1 p i.toNat) :: r, w)
    | _ + 1 => some (some (p = 9999 ∧ R32 i ∧ 0 ≤ i ∧ i < w.1.2.2), nx, lv, .inl (w.2.1 p i.toNat) :: r, w))
  | _ => none
def y_zald (nx : Nat) (lv : L2) (st : List V2) (w : W2) : YO := match st with
  | .inl i :: .inr (.inr p) :: r => some (some (p < w.1.1 ∧ (sh p).1 = 3 ∧ 0 ≤ i ∧ i < (sh p).2), nx, lv, .inl (w.2.1 p i.toNat) :: r, w)
  | _ => none
def y_lald (nx : Nat) (lv : L2) (st : List V2) (w : W2) : YO := match st with
  | .inl i :: .inr (.inr p) :: r => some (some (p < w.1.1 ∧ (sh p).1 = 4 ∧ 0 ≤ i ∧ i < (sh p).2), nx, lv, .inr (.inl (w.2.2.1 p i.toNat)) :: r, w)
  | _ => none
def y_aald (o nx : Nat) (lv : L2) (st : List V2) (w : W2) : YO := match st with
  | .inl i :: .inr (.inr p) :: r => some (some (p < w.1.1 ∧ ((sh p).1 = 5 ∨ (sh p).1 = 6 ∨ (sh p).1 = 7) ∧ (0 ≤ i ∧ i < (sh p).2) ∧ w.2.2.2 p i.toNat = some o), nx, lv, .inr (.inr o) :: r, w)
  | _ => none
def y_iast (nx : Nat) (lv : L2) (st : List V2) (w : W2) : YO := match st with
  | .inl x :: .inl i :: .inr (.inr p) :: r => some (some (p < w.1.1 ∧ (sh p).1 = 2 ∧ 0 ≤ i ∧ i < (sh p).2), nx, lv, r, (w.1, am_up w.2.1 p i.toNat x, w.2.2))
  | _ => none
def y_zast (nx : Nat) (lv : L2) (st : List V2) (w : W2) : YO := match st with
  | .inl x :: .inl i :: .inr (.inr p) :: r => some (some (p < w.1.1 ∧ (sh p).1 = 3 ∧ (0 ≤ i ∧ i < (sh p).2) ∧ (x = 0 ∨ x = 1)), nx, lv, r, (w.1, am_up w.2.1 p i.toNat x, w.2.2))
  | _ => none
def y_last (nx : Nat) (lv : L2) (st : List V2) (w : W2) : YO := match st with
  | .inr (.inl x) :: .inl i :: .inr (.inr p) :: r => some (some (p < w.1.1 ∧ (sh p).1 = 4 ∧ 0 ≤ i ∧ i < (sh p).2), nx, lv, r, (w.1, w.2.1, am_up w.2.2.1 p i.toNat x, w.2.2.2))
  | _ => none
def y_aast (nx : Nat) (lv : L2) (st : List V2) (w : W2) : YO := match st with
  | .inr (.inr q) :: .inl i :: .inr (.inr p) :: r => some (some (p < w.1.1 ∧ q < w.1.1 ∧ (((sh p).1 = 6 ∧ sh q = (1, 4)) ∨ ((sh p).1 = 7 ∧ sh q = (1, 3))) ∧ 0 ≤ i ∧ i < (sh p).2), nx, lv, r, (w.1, w.2.1, w.2.2.1, am_up w.2.2.2 p i.toNat (some q)))
  | _ => none
def y_len (nx : Nat) (lv : L2) (st : List V2) (w : W2) : YO := match st with
  | .inr (.inr p) :: r => some (some (p = 9999), nx, lv, .inl (w.1.2.2 : Int) :: r, w)
  | _ => none
def y_mk (w : W2) (n : Nat) : W2 := ((w.1.1 + 1, w.1.2.1 + n, w.1.2.2), am_row w.2.1 w.1.1 (fun _ => 0), am_row w.2.2.1 w.1.1 (fun _ => 0), am_row w.2.2.2 w.1.1 (fun _ => none))
def y_newa (a nx : Nat) (lv : L2) (st : List V2) (w : W2) : YO := match st with
  | .inl n :: r => some (some (w.1.1 < am_NP ∧ 0 ≤ n ∧ sh w.1.1 = (a, n.toNat) ∧ n ≤ 1000), nx, lv, .inr (.inr w.1.1) :: r, y_mk w n.toNat)
  | _ => none
def y_new (a nx : Nat) (lv : L2) (st : List V2) (w : W2) : YO :=
  some (some (w.1.1 < am_NP ∧ sh w.1.1 = (1, a)), nx, lv, .inr (.inr w.1.1) :: st, y_mk w (am_N a))
def y_mk2 (w : W2) : W2 := ((w.1.1 + 9, w.1.2.1 + 56, w.1.2.2), am_rows w.2.1 w.1.1 9 (fun _ => 0), am_rows w.2.2.1 w.1.1 9 (fun _ => 0), am_row (am_rows w.2.2.2 w.1.1 9 (fun _ => none)) w.1.1 (fun i => if i < 8 then some (w.1.1 + 1 + i) else none))
def y_mna (nx : Nat) (lv : L2) (st : List V2) (w : W2) : YO := match st with
  | .inl m :: .inl n :: r => some (some (w.1.1 + 9 ≤ am_NP ∧ n = 8 ∧ m = 6 ∧ sh w.1.1 = (5, 8) ∧ ∀ i, i < 8 → sh (w.1.1 + 1 + i) = (2, 6)), nx, lv, .inr (.inr w.1.1) :: r, y_mk2 w)
  | _ => none
def y_dup (nx : Nat) (lv : L2) (st : List V2) (w : W2) : YO := match st with
  | .inl x :: r => some (none, nx, lv, .inl x :: .inl x :: r, w)
  | .inr (.inr x) :: r => some (none, nx, lv, .inr (.inr x) :: .inr (.inr x) :: r, w)
  | _ => none
def y_dup2 (nx : Nat) (lv : L2) (st : List V2) (w : W2) : YO := match st with
  | .inl x :: .inr (.inr y) :: r => some (none, nx, lv, .inl x :: .inr (.inr y) :: .inl x :: .inr (.inr y) :: r, w)
  | _ => none
def y_pop (nx : Nat) (lv : L2) (st : List V2) (w : W2) : YO := match st with
  | .inl _ :: r => some (none, nx, lv, r, w)
  | _ => none
def y_cpq (w : W2) (T p q : Nat) (sp dp n : Int) : Prop := am_NP ≤ w.1.1 ∧ p < w.1.1 ∧ q < w.1.1 ∧ (sh p).1 = T ∧ (sh q).1 = T ∧ 0 ≤ sp ∧ 0 ≤ dp ∧ 0 ≤ n ∧ sp + n ≤ (sh p).2 ∧ dp + n ≤ (sh q).2
def y_cp (o nx : Nat) (lv : L2) (st : List V2) (w : W2) : YO := match st with
  | .inl n :: .inl dp :: .inr (.inr q) :: .inl sp :: .inr (.inr p) :: r => (match o with
    | 0 => some (some (y_cpq w 2 p q sp dp n), nx, lv, r, (w.1, am_row w.2.1 q (va_cpy (w.2.1 p) (w.2.1 q) sp.toNat dp.toNat n.toNat), w.2.2))
    | _ + 1 => some (some (y_cpq w 4 p q sp dp n), nx, lv, r, (w.1, w.2.1, am_row w.2.2.1 q (va_cpy (w.2.2.1 p) (w.2.2.1 q) sp.toNat dp.toNat n.toNat), w.2.2.2)))
  | _ => none
def y_str (j : Nat) : List Int := match j with
  | 0 => [115, 97, 121]
  | 1 => [119, 111, 114, 100]
  | 2 => [102, 114, 97, 109, 101]
  | _ => [119, 105, 110, 100, 111, 119]
def y_slen (j : Nat) : Int := match j with
  | 0 => 3
  | 1 => 4
  | 2 => 5
  | _ => 6
def y_vcall (b o nx : Nat) (lv : L2) (st : List V2) (w : W2) : YO := match b with
  | 12 => (match st with
    | .inr (.inr p) :: r => some (some (p = 9990 + o ∧ o < 4), nx, lv, .inl (y_slen o) :: r, w)
    | _ => none)
  | 13 => (match st with
    | .inl i :: .inr (.inr p) :: r => some (some (p = 9990 + o ∧ o < 4 ∧ 0 ≤ i ∧ i < (y_str o).length), nx, lv, .inl ((y_str o).getD i.toNat 0) :: r, w)
    | _ => none)
  | _ => none
def y_with (q0 : Prop) (a : YO) : YO := match a with
  | some (none, t) => some (some q0, t)
  | some (some q, t) => some (some (q0 ∧ q), t)
  | none => none
def y_scall (b o nx : Nat) (lv : L2) (st : List V2) (w : W2) : YO := match b with
  | 6 => y_ii nx lv st w (fun x y => some (R32 x ∧ R32 y)) (fun x y => if x < y then y else x)
  | 7 => y_ii nx lv st w (fun x y => some (R32 x ∧ R32 y)) (fun x y => if y < x then y else x)
  | 8 => y_i1 nx lv st w (fun x => some (R32 x)) (fun x => .inl (if 0 ≤ x then x else 0 - x))
  | 9 => y_ll nx lv st w (fun x y => some (R64 x ∧ R64 y)) (fun x y => if y < x then x else y)
  | 10 => y_l1 nx lv st w (fun x => some (R64 x)) (fun x => .inr (.inl (if 0 < x then x else -x)))
  | 11 => y_cp o nx lv st w
  | _ => none
def y_icall (b nx : Nat) (lv : L2) (st : List V2) (w : W2) : YO := match b with
  | 5 => (match st with
    | .inr (.inr _) :: r => some (none, nx, lv, r, w)
    | _ => none)
  | _ => none
def y_cat (v : V2) : Nat := match v with
  | .inl _ => 1
  | .inr (.inl _) => 2
  | .inr (.inr _) => 1
def y_sum : List V2 → Nat
  | [] => 0
  | v :: l => y_cat v + y_sum l
def y_iinc (nx i : Nat) (v : Value) (lv : L2) (st : List V2) (w : W2) : YO := match y_g lv i with
  | some (.inl x) => (match v with
    | .int y => some (none, nx, y_s1 lv i (.inl (x + y.toInt)), st, w)
    | _ => none)
  | _ => none
def y_cmp (x y : Int) : Int := if y < x then 1 else if x = y then 0 else -1
def y_l2i (o nx : Nat) (lv : L2) (st : List V2) (w : W2) : YO := match o with
  | 0 => y_l1 nx lv st w y_no (fun x => .inl x)
  | _ + 1 => y_l1 nx lv st w y_no (fun x => .inl (Int64.ofInt x).toInt32.toInt)
def y_lshl (nx : Nat) (lv : L2) (st : List V2) (w : W2) : YO := match st with
  | .inl y :: .inr (.inl x) :: r => some (none, nx, lv, .inr (.inl (Int64.ofInt x <<< ((Int32.ofInt y).toInt64 &&& 63)).toInt) :: r, w)
  | _ => none
def y_lcmp (nx : Nat) (lv : L2) (st : List V2) (w : W2) : YO := match st with
  | .inr (.inl y) :: .inr (.inl x) :: r => some (some ((R64 x ∧ R64 y) ∨ x = y), nx, lv, .inl (y_cmp x y) :: r, w)
  | _ => none
def ay (e : AE) (o : Nat) (s : S2) : YO :=
  match e, s with
  | (ins, nx, a, b, _, v), (pc, lv, st, w) => match ins with
    | .iconst _ => y_c nx lv st w v
    | .bipush _ => y_c nx lv st w v
    | .sipush _ => y_c nx lv st w v
    | .lconst _ => y_c nx lv st w v
    | .ldc _ => y_c nx lv st w v
    | .ldc_w _ => y_c nx lv st w v
    | .ldc2_w _ => y_c nx lv st w v
    | .iload_n k => y_ld nx lv st w k.val
    | .iload k => y_ld nx lv st w k
    | .lload_n k => y_ldl nx lv st w k.val
    | .lload k => y_ldl nx lv st w k
    | .aload_n k => y_lda nx lv st w k.val
    | .istore_n k => y_sti nx lv st w k.val
    | .istore k => y_sti nx lv st w k
    | .lstore_n k => y_stl nx lv st w k.val
    | .lstore k => y_stl nx lv st w k
    | .astore_n k => y_sta nx lv st w k.val
    | .iinc k _ => y_iinc nx k v lv st w
    | .iadd => y_ii nx lv st w y_nn (fun x y => x + y)
    | .isub => y_ii nx lv st w y_nn (fun x y => x - y)
    | .imul => y_ii nx lv st w y_nn (fun x y => x * y)
    | .iand => y_ii nx lv st w y_nn (fun x y => (Int32.ofInt x &&& Int32.ofInt y).toInt)
    | .ior => y_ii nx lv st w y_nn (fun x y => (Int32.ofInt x ||| Int32.ofInt y).toInt)
    | .ishl => y_ii nx lv st w y_nn (fun x y => (Int32.ofInt x <<< (Int32.ofInt y &&& 31)).toInt)
    | .ishr => y_ii nx lv st w y_nn (fun x y => (Int32.ofInt x >>> (Int32.ofInt y &&& 31)).toInt)
    | .iushr => y_ii nx lv st w y_nn (fun x y => ((Int32.ofInt x).toUInt32 >>> ((Int32.ofInt y).toUInt32 &&& Int32.toUInt32 31)).toInt32.toInt)
    | .idiv => y_ii nx lv st w (fun x y => some (0 ≤ x ∧ x ≤ 2147483647 ∧ 0 < y ∧ y ≤ 2147483647)) (fun x y => x / y)
    | .irem => y_ii nx lv st w (fun x y => some (0 ≤ x ∧ x ≤ 2147483647 ∧ 0 < y ∧ y ≤ 2147483647)) (fun x y => x % y)
    | .ineg => y_i1 nx lv st w y_no (fun x => .inl (-x))
    | .i2l => y_i1 nx lv st w (fun x => some (R32 x)) (fun x => .inr (.inl x))
    | .i2b => y_i1 nx lv st w y_no (fun x => .inl (Int32.ofInt x).toInt8.toInt32.toInt)
    | .i2s => y_i1 nx lv st w y_no (fun x => .inl (Int32.ofInt x).toInt16.toInt32.toInt)
    | .l2i => y_l2i o nx lv st w
    | .lneg => y_l1 nx lv st w y_no (fun x => .inr (.inl (-x)))
    | .ladd => y_ll nx lv st w y_nn (fun x y => x + y)
    | .lsub => y_ll nx lv st w y_nn (fun x y => x - y)
    | .lmul => y_ll nx lv st w y_nn (fun x y => x * y)
    | .land => y_ll nx lv st w y_nn (fun x y => (Int64.ofInt x &&& Int64.ofInt y).toInt)
    | .lor => y_ll nx lv st w y_nn (fun x y => (Int64.ofInt x ||| Int64.ofInt y).toInt)
    | .ldiv => y_ll nx lv st w (fun x y => some (0 ≤ x ∧ x ≤ 9223372036854775807 ∧ 0 < y ∧ y ≤ 9223372036854775807)) (fun x y => x / y)
    | .lrem => y_ll nx lv st w (fun x y => some (0 ≤ x ∧ x ≤ 9223372036854775807 ∧ 0 < y ∧ y ≤ 9223372036854775807)) (fun x y => x % y)
    | .lshl => y_lshl nx lv st w
    | .lcmp => y_lcmp nx lv st w
    | .goto _ => some (none, a, lv, st, w)
    | .ifCond c _ => y_if c o nx a lv st w
    | .if_icmp c _ => y_icmp c o nx a lv st w
    | .tableswitch df lo hi offs => y_tsw df lo hi offs o pc lv st w
    | .lookupswitch df ps => y_lsw df ps (am_lswz df ps o) pc lv st w
    | .getfield _ => y_get a b o nx lv st w
    | .putfield _ => y_put a b nx lv st w
    | .iaload => y_iald o nx lv st w
    | .baload => y_zald nx lv st w
    | .laload => y_lald nx lv st w
    | .aaload => y_aald o nx lv st w
    | .iastore => y_iast nx lv st w
    | .bastore => y_zast nx lv st w
    | .lastore => y_last nx lv st w
    | .aastore => y_aast nx lv st w
    | .arraylength => y_len nx lv st w
    | .newarray _ => y_newa a nx lv st w
    | .new _ => y_new a nx lv st w
    | .anewarray _ => y_newa (am_ak a) nx lv st w
    | .multianewarray _ _ => y_mna nx lv st w
    | .dup => y_dup nx lv st w
    | .dup2 => y_dup2 nx lv st w
    | .pop => y_pop nx lv st w
    | .invokevirtual _ => y_with (y_sum st ≤ 9) (y_vcall b o nx lv st w)
    | .invokestatic _ => y_with (y_sum st ≤ 9) (y_scall b o nx lv st w)
    | .invokespecial _ => y_with (y_sum st ≤ 9) (y_icall b nx lv st w)
    | _ => none
def ays (c : Nat → Option AE) : List Nat → Prop → S2 → Option (Prop × S2)
  | [], P, s => some (P, s)
  | o :: os, P, s => match c s.1 with
    | none => none
    | some e => match ay e o s with
      | none => none
      | some (none, s') => ays c os P s'
      | some (some q, s') => ays c os (P ∧ q) s'
