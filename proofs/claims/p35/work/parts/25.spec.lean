/-! the state in the reference's words: a row r is what the reference holds at 298 -/
abbrev Row : Type := Nat → Int
def ysm (f : Nat → Int) : Nat → Int
  | 0 => 0
  | n + 1 => ysm f n + f n
theorem ysm_cong {f g : Nat → Int} : ∀ {n : Nat}, (∀ k, k < n → f k = g k) → ysm f n = ysm g n
  | 0, _ => rfl
  | n + 1, h => by
    show ysm f n + f n = ysm g n + g n
    rw [ysm_cong (fun k hk => h k (by omega)), h n (by omega)]
theorem ysm_bd {f : Nat → Int} {c : Int} : ∀ {n : Nat}, (∀ k, k < n → 0 ≤ f k ∧ f k ≤ c) → 0 ≤ ysm f n ∧ ysm f n ≤ n * c
  | 0, _ => by simp [ysm]
  | n + 1, h => by
    have h1 := ysm_bd (n := n) (fun k hk => h k (by omega))
    have h2 := h n (by omega)
    have e : ((n + 1 : Nat) : Int) * c = n * c + c := by rw [Int.natCast_add, Int.add_mul]; simp
    rw [e]
    show 0 ≤ ysm f n + f n ∧ ysm f n + f n ≤ n * c + c
    omega
def yu1 (r : Row) (k : Nat) (x : Int) : Row := fun j => if j = k then x else r j
def ymk (t a b : Int) : Int := (2 * t * b + a) / (2 * a)
def ytot (r : Row) : Int := ysm (fun k => r (58 + k)) (r 0).toNat
def Yvd (r : Row) : Prop := (0 ≤ r 0 ∧ r 0 ≤ 12) ∧
  (0 ≤ r 1 ∧ r 1 ≤ 8) ∧
  (1 ≤ r 2 ∧ r 2 ≤ 12) ∧
  (1 ≤ r 3 ∧ r 3 ≤ 2) ∧
  (0 ≤ r 4 ∧ r 4 ≤ 3) ∧
  (0 ≤ r 5 ∧ r 5 ≤ 2147483647) ∧
  (∀ k, k < 8 → 0 ≤ r (6 + k) ∧ r (6 + k) ≤ 12) ∧
  (∀ k, k < 8 → 0 ≤ r (14 + k) ∧ r (14 + k) ≤ 12) ∧
  (∀ k, k < 12 → 0 ≤ r (22 + k) ∧ r (22 + k) < 8) ∧
  (∀ k, k < 12 → 0 ≤ r (34 + k) ∧ r (34 + k) ≤ 5) ∧
  (∀ k, k < 12 → 0 ≤ r (46 + k) ∧ r (46 + k) < 12) ∧
  (∀ k, k < 12 → 0 ≤ r (58 + k) ∧ r (58 + k) ≤ 12) ∧
  (∀ k : Nat, (k : Int) < r 0 → 1 ≤ r (58 + k)) ∧
  (∀ j, j < 8 → 0 ≤ r (70 + 8 * j) ∧ r (70 + 8 * j) ≤ 9) ∧
  (∀ j, j < 8 → 0 ≤ r (71 + 8 * j) ∧ r (71 + 8 * j) ≤ 6) ∧
  (∀ j, j < 8 → ∀ k, k < 6 → 0 ≤ r (72 + 8 * j + k) ∧ r (72 + 8 * j + k) < 12) ∧
  (∀ j : Nat, (j : Int) < r 1 → 1 ≤ r (70 + 8 * j) ∧ 1 ≤ r (71 + 8 * j)) ∧
  (ymk (ytot r) (r 2) (r 3) ≤ 100)
def Ytk (F : Nat → Nat → Int) (p : Nat) (r : Row) : Prop := (F p 6 = r 0) ∧
  (F p 7 = r 2) ∧
  (F p 8 = r 3) ∧
  (F p 9 = r 4) ∧
  (F p 13 = r 1) ∧
  (F p 14 = r 5) ∧
  (∀ k, k < 8 → F (p + 1) k = r (6 + k)) ∧
  (∀ k, k < 8 → F (p + 2) k = r (14 + k)) ∧
  (∀ k, k < 12 → F (p + 3) k = r (22 + k)) ∧
  (∀ k, k < 12 → F (p + 4) k = r (34 + k)) ∧
  (∀ k, k < 12 → F (p + 5) k = r (46 + k)) ∧
  (∀ k, k < 12 → F (p + 6) k = r (58 + k)) ∧
  (∀ j, j < 8 → F (p + 7) j = r (70 + 8 * j)) ∧
  (∀ j, j < 8 → F (p + 8) j = r (71 + 8 * j)) ∧
  (∀ j : Nat, j < 8 → ∀ k : Nat, k < 6 → (k : Int) < r (71 + 8 * j) → F (p + 10 + j) k = r (72 + 8 * j + k))
theorem Yvd.n {r : Row} (h : Yvd r) : 0 ≤ r 0 ∧ r 0 ≤ 12 := h.1
theorem Yvd.w {r : Row} (h : Yvd r) : 0 ≤ r 1 ∧ r 1 ≤ 8 := h.2.1
theorem Yvd.lo {r : Row} (h : Yvd r) : 1 ≤ r 2 ∧ r 2 ≤ 12 := h.2.2.1
theorem Yvd.by {r : Row} (h : Yvd r) : 1 ≤ r 3 ∧ r 3 ≤ 2 := h.2.2.2.1
theorem Yvd.wi {r : Row} (h : Yvd r) : 0 ≤ r 4 ∧ r 4 ≤ 3 := h.2.2.2.2.1
theorem Yvd.dr {r : Row} (h : Yvd r) : 0 ≤ r 5 ∧ r 5 ≤ 2147483647 := h.2.2.2.2.2.1
theorem Yvd.op {r : Row} (h : Yvd r) : ∀ k, k < 8 → 0 ≤ r (6 + k) ∧ r (6 + k) ≤ 12 := h.2.2.2.2.2.2.1
theorem Yvd.wd {r : Row} (h : Yvd r) : ∀ k, k < 8 → 0 ≤ r (14 + k) ∧ r (14 + k) ≤ 12 := h.2.2.2.2.2.2.2.1
theorem Yvd.sh {r : Row} (h : Yvd r) : ∀ k, k < 12 → 0 ≤ r (22 + k) ∧ r (22 + k) < 8 := h.2.2.2.2.2.2.2.2.1
theorem Yvd.pu {r : Row} (h : Yvd r) : ∀ k, k < 12 → 0 ≤ r (34 + k) ∧ r (34 + k) ≤ 5 := h.2.2.2.2.2.2.2.2.2.1
theorem Yvd.sg {r : Row} (h : Yvd r) : ∀ k, k < 12 → 0 ≤ r (46 + k) ∧ r (46 + k) < 12 := h.2.2.2.2.2.2.2.2.2.2.1
theorem Yvd.tm {r : Row} (h : Yvd r) : ∀ k, k < 12 → 0 ≤ r (58 + k) ∧ r (58 + k) ≤ 12 := h.2.2.2.2.2.2.2.2.2.2.2.1
theorem Yvd.tp {r : Row} (h : Yvd r) : ∀ k : Nat, (k : Int) < r 0 → 1 ≤ r (58 + k) := h.2.2.2.2.2.2.2.2.2.2.2.2.1
theorem Yvd.wt {r : Row} (h : Yvd r) : ∀ j, j < 8 → 0 ≤ r (70 + 8 * j) ∧ r (70 + 8 * j) ≤ 9 := h.2.2.2.2.2.2.2.2.2.2.2.2.2.1
theorem Yvd.sz {r : Row} (h : Yvd r) : ∀ j, j < 8 → 0 ≤ r (71 + 8 * j) ∧ r (71 + 8 * j) ≤ 6 := h.2.2.2.2.2.2.2.2.2.2.2.2.2.2.1
theorem Yvd.lt {r : Row} (h : Yvd r) : ∀ j, j < 8 → ∀ k, k < 6 → 0 ≤ r (72 + 8 * j + k) ∧ r (72 + 8 * j + k) < 12 := h.2.2.2.2.2.2.2.2.2.2.2.2.2.2.2.1
theorem Yvd.wp {r : Row} (h : Yvd r) : ∀ j : Nat, (j : Int) < r 1 → 1 ≤ r (70 + 8 * j) ∧ 1 ≤ r (71 + 8 * j) := h.2.2.2.2.2.2.2.2.2.2.2.2.2.2.2.2.1
theorem Yvd.mk {r : Row} (h : Yvd r) : ymk (ytot r) (r 2) (r 3) ≤ 100 := h.2.2.2.2.2.2.2.2.2.2.2.2.2.2.2.2.2
theorem Ytk.n {F : Nat → Nat → Int} {p : Nat} {r : Row} (h : Ytk F p r) : F p 6 = r 0 := h.1
theorem Ytk.lo {F : Nat → Nat → Int} {p : Nat} {r : Row} (h : Ytk F p r) : F p 7 = r 2 := h.2.1
theorem Ytk.by {F : Nat → Nat → Int} {p : Nat} {r : Row} (h : Ytk F p r) : F p 8 = r 3 := h.2.2.1
theorem Ytk.wi {F : Nat → Nat → Int} {p : Nat} {r : Row} (h : Ytk F p r) : F p 9 = r 4 := h.2.2.2.1
theorem Ytk.w {F : Nat → Nat → Int} {p : Nat} {r : Row} (h : Ytk F p r) : F p 13 = r 1 := h.2.2.2.2.1
theorem Ytk.dr {F : Nat → Nat → Int} {p : Nat} {r : Row} (h : Ytk F p r) : F p 14 = r 5 := h.2.2.2.2.2.1
theorem Ytk.op {F : Nat → Nat → Int} {p : Nat} {r : Row} (h : Ytk F p r) : ∀ k, k < 8 → F (p + 1) k = r (6 + k) := h.2.2.2.2.2.2.1
theorem Ytk.wd {F : Nat → Nat → Int} {p : Nat} {r : Row} (h : Ytk F p r) : ∀ k, k < 8 → F (p + 2) k = r (14 + k) := h.2.2.2.2.2.2.2.1
theorem Ytk.sh {F : Nat → Nat → Int} {p : Nat} {r : Row} (h : Ytk F p r) : ∀ k, k < 12 → F (p + 3) k = r (22 + k) := h.2.2.2.2.2.2.2.2.1
theorem Ytk.pu {F : Nat → Nat → Int} {p : Nat} {r : Row} (h : Ytk F p r) : ∀ k, k < 12 → F (p + 4) k = r (34 + k) := h.2.2.2.2.2.2.2.2.2.1
theorem Ytk.sg {F : Nat → Nat → Int} {p : Nat} {r : Row} (h : Ytk F p r) : ∀ k, k < 12 → F (p + 5) k = r (46 + k) := h.2.2.2.2.2.2.2.2.2.2.1
theorem Ytk.tm {F : Nat → Nat → Int} {p : Nat} {r : Row} (h : Ytk F p r) : ∀ k, k < 12 → F (p + 6) k = r (58 + k) := h.2.2.2.2.2.2.2.2.2.2.2.1
theorem Ytk.wt {F : Nat → Nat → Int} {p : Nat} {r : Row} (h : Ytk F p r) : ∀ j, j < 8 → F (p + 7) j = r (70 + 8 * j) := h.2.2.2.2.2.2.2.2.2.2.2.2.1
theorem Ytk.sz {F : Nat → Nat → Int} {p : Nat} {r : Row} (h : Ytk F p r) : ∀ j, j < 8 → F (p + 8) j = r (71 + 8 * j) := h.2.2.2.2.2.2.2.2.2.2.2.2.2.1
theorem Ytk.lt {F : Nat → Nat → Int} {p : Nat} {r : Row} (h : Ytk F p r) : ∀ j : Nat, j < 8 → ∀ k : Nat, k < 6 → (k : Int) < r (71 + 8 * j) → F (p + 10 + j) k = r (72 + 8 * j + k) := h.2.2.2.2.2.2.2.2.2.2.2.2.2.2
theorem Ytk.n1 {F : Nat → Nat → Int} {r : Row} (h : Ytk F 1 r) : F 1 6 = r 0 := h.1
theorem Ytk.lo1 {F : Nat → Nat → Int} {r : Row} (h : Ytk F 1 r) : F 1 7 = r 2 := h.2.1
theorem Ytk.by1 {F : Nat → Nat → Int} {r : Row} (h : Ytk F 1 r) : F 1 8 = r 3 := h.2.2.1
theorem Ytk.wi1 {F : Nat → Nat → Int} {r : Row} (h : Ytk F 1 r) : F 1 9 = r 4 := h.2.2.2.1
theorem Ytk.w1 {F : Nat → Nat → Int} {r : Row} (h : Ytk F 1 r) : F 1 13 = r 1 := h.2.2.2.2.1
theorem Ytk.dr1 {F : Nat → Nat → Int} {r : Row} (h : Ytk F 1 r) : F 1 14 = r 5 := h.2.2.2.2.2.1
theorem Ytk.op1 {F : Nat → Nat → Int} {r : Row} (h : Ytk F 1 r) : ∀ k, k < 8 → F 2 k = r (6 + k) := h.2.2.2.2.2.2.1
theorem Ytk.wd1 {F : Nat → Nat → Int} {r : Row} (h : Ytk F 1 r) : ∀ k, k < 8 → F 3 k = r (14 + k) := h.2.2.2.2.2.2.2.1
theorem Ytk.sh1 {F : Nat → Nat → Int} {r : Row} (h : Ytk F 1 r) : ∀ k, k < 12 → F 4 k = r (22 + k) := h.2.2.2.2.2.2.2.2.1
theorem Ytk.pu1 {F : Nat → Nat → Int} {r : Row} (h : Ytk F 1 r) : ∀ k, k < 12 → F 5 k = r (34 + k) := h.2.2.2.2.2.2.2.2.2.1
theorem Ytk.sg1 {F : Nat → Nat → Int} {r : Row} (h : Ytk F 1 r) : ∀ k, k < 12 → F 6 k = r (46 + k) := h.2.2.2.2.2.2.2.2.2.2.1
theorem Ytk.tm1 {F : Nat → Nat → Int} {r : Row} (h : Ytk F 1 r) : ∀ k, k < 12 → F 7 k = r (58 + k) := h.2.2.2.2.2.2.2.2.2.2.2.1
theorem Ytk.wt1 {F : Nat → Nat → Int} {r : Row} (h : Ytk F 1 r) : ∀ j, j < 8 → F 8 j = r (70 + 8 * j) := h.2.2.2.2.2.2.2.2.2.2.2.2.1
theorem Ytk.sz1 {F : Nat → Nat → Int} {r : Row} (h : Ytk F 1 r) : ∀ j, j < 8 → F 9 j = r (71 + 8 * j) := h.2.2.2.2.2.2.2.2.2.2.2.2.2.1
theorem Ytk.lt1 {F : Nat → Nat → Int} {r : Row} (h : Ytk F 1 r) : ∀ j : Nat, j < 8 → ∀ k : Nat, k < 6 → (k : Int) < r (71 + 8 * j) → F (11 + j) k = r (72 + 8 * j + k) := h.2.2.2.2.2.2.2.2.2.2.2.2.2.2
theorem Ytk.mk1 {F : Nat → Nat → Int} {r : Row} (h : (F 1 6 = r 0) ∧ (F 1 7 = r 2) ∧ (F 1 8 = r 3) ∧ (F 1 9 = r 4) ∧ (F 1 13 = r 1) ∧ (F 1 14 = r 5) ∧ (∀ k, k < 8 → F 2 k = r (6 + k)) ∧ (∀ k, k < 8 → F 3 k = r (14 + k)) ∧ (∀ k, k < 12 → F 4 k = r (22 + k)) ∧ (∀ k, k < 12 → F 5 k = r (34 + k)) ∧ (∀ k, k < 12 → F 6 k = r (46 + k)) ∧ (∀ k, k < 12 → F 7 k = r (58 + k)) ∧ (∀ j, j < 8 → F 8 j = r (70 + 8 * j)) ∧ (∀ j, j < 8 → F 9 j = r (71 + 8 * j)) ∧ (∀ j : Nat, j < 8 → ∀ k : Nat, k < 6 → (k : Int) < r (71 + 8 * j) → F (11 + j) k = r (72 + 8 * j + k))) : Ytk F 1 r := h
theorem ytot_bd {r : Row} (v : Yvd r) : 0 ≤ ytot r ∧ ytot r ≤ 144 := by
  have hn := v.n
  have := ysm_bd (f := fun k => r (58 + k)) (c := 12) (n := (r 0).toNat) (fun k hk => v.tm k (by omega))
  unfold ytot
  omega
theorem ysm_bd12 {r : Row} (v : Yvd r) {n : Nat} (hn : n ≤ 12) : 0 ≤ ysm (fun k => r (58 + k)) n ∧ ysm (fun k => r (58 + k)) n ≤ 144 := by
  have := ysm_bd (f := fun k => r (58 + k)) (c := 12) (n := n) (fun k hk => v.tm k (by omega))
  omega
theorem Ytk.cong {F F' : Nat → Nat → Int} {p : Nat} {r : Row} (h : Ytk F p r) (e : ∀ q, p ≤ q → q < p + 18 → F' q = F q) : Ytk F' p r := by
  refine ⟨by rw [e p (by omega) (by omega)]; exact h.n, by rw [e p (by omega) (by omega)]; exact h.lo, by rw [e p (by omega) (by omega)]; exact h.by, by rw [e p (by omega) (by omega)]; exact h.wi, by rw [e p (by omega) (by omega)]; exact h.w, by rw [e p (by omega) (by omega)]; exact h.dr, fun k hk => by rw [e (p + 1) (by omega) (by omega)]; exact h.op k hk, fun k hk => by rw [e (p + 2) (by omega) (by omega)]; exact h.wd k hk, fun k hk => by rw [e (p + 3) (by omega) (by omega)]; exact h.sh k hk, fun k hk => by rw [e (p + 4) (by omega) (by omega)]; exact h.pu k hk, fun k hk => by rw [e (p + 5) (by omega) (by omega)]; exact h.sg k hk, fun k hk => by rw [e (p + 6) (by omega) (by omega)]; exact h.tm k hk, fun k hk => by rw [e (p + 7) (by omega) (by omega)]; exact h.wt k hk, fun k hk => by rw [e (p + 8) (by omega) (by omega)]; exact h.sz k hk, fun j hj k hk hl => by rw [e (p + 10 + j) (by omega) (by omega)]; exact h.lt j hj k hk hl⟩
theorem Yvd.cong {r r' : Row} (v : Yvd r) (e : ∀ k, k < 134 → r' k = r k) : Yvd r' := by
  have e0 := e 0 (by omega)
  have e1 := e 1 (by omega)
  have e2 := e 2 (by omega)
  have e3 := e 3 (by omega)
  have e4 := e 4 (by omega)
  have e5 := e 5 (by omega)
  have hn := v.n
  have hw := v.w
  have et : ytot r' = ytot r := by
    unfold ytot
    rw [e0]
    exact ysm_cong (fun k hk => e _ (by omega))
  refine ⟨by rw [e0]; exact v.n, by rw [e1]; exact v.w, by rw [e2]; exact v.lo, by rw [e3]; exact v.by, by rw [e4]; exact v.wi, by rw [e5]; exact v.dr,
    fun k hk => by rw [e _ (by omega)]; exact v.op k hk, fun k hk => by rw [e _ (by omega)]; exact v.wd k hk, fun k hk => by rw [e _ (by omega)]; exact v.sh k hk, fun k hk => by rw [e _ (by omega)]; exact v.pu k hk,
    fun k hk => by rw [e _ (by omega)]; exact v.sg k hk, fun k hk => by rw [e _ (by omega)]; exact v.tm k hk, fun k hk => by rw [e0] at hk; rw [e _ (by omega)]; exact v.tp k hk,
    fun j hj => by rw [e _ (by omega)]; exact v.wt j hj, fun j hj => by rw [e _ (by omega)]; exact v.sz j hj, fun j hj k hk => by rw [e _ (by omega)]; exact v.lt j hj k hk,
    fun j hj => by rw [e1] at hj; rw [e _ (by omega), e _ (by omega)]; exact v.wp j hj, by rw [et, e2, e3]; exact v.mk⟩
theorem Ytk.row {F : Nat → Nat → Int} {p : Nat} {r r' : Row} (t : Ytk F p r) (e : ∀ k, k < 134 → r' k = r k) : Ytk F p r' := by
  refine ⟨by rw [e _ (by omega)]; exact t.n, by rw [e _ (by omega)]; exact t.lo, by rw [e _ (by omega)]; exact t.by, by rw [e _ (by omega)]; exact t.wi, by rw [e _ (by omega)]; exact t.w, by rw [e _ (by omega)]; exact t.dr,
    fun k hk => by rw [e _ (by omega)]; exact t.op k hk, fun k hk => by rw [e _ (by omega)]; exact t.wd k hk, fun k hk => by rw [e _ (by omega)]; exact t.sh k hk, fun k hk => by rw [e _ (by omega)]; exact t.pu k hk, fun k hk => by rw [e _ (by omega)]; exact t.sg k hk, fun k hk => by rw [e _ (by omega)]; exact t.tm k hk,
    fun j hj => by rw [e _ (by omega)]; exact t.wt j hj, fun j hj => by rw [e _ (by omega)]; exact t.sz j hj, fun j hj k hk hl => by rw [e _ (by omega)] at hl; rw [e _ (by omega)]; exact t.lt j hj k hk hl⟩
/-! what a tell answers, and the row behind it -/
def sShape (r : Row) (k o w : Int) : Int × Row := if 0 ≤ k ∧ k ≤ 7 ∧ 0 ≤ o ∧ o ≤ 12 ∧ 0 ≤ w ∧ w ≤ 12 then (if r (6 + k.toNat) = o ∧ r (14 + k.toNat) = w then (-2, r) else (13 * r (6 + k.toNat) + r (14 + k.toNat), yu1 (yu1 r (6 + k.toNat) o) (14 + k.toNat) w)) else (-1, r)
def sSign (r : Row) (s o w : Int) : Int × Row := if 0 ≤ s ∧ s ≤ 11 ∧ 0 ≤ o ∧ o ≤ 7 ∧ 0 ≤ w ∧ w ≤ 5 then (if r (22 + s.toNat) = o ∧ r (34 + s.toNat) = w then (-2, r) else (6 * r (22 + s.toNat) + r (34 + s.toNat), yu1 (yu1 r (22 + s.toNat) o) (34 + s.toNat) w)) else (-1, r)
def sSound (r : Row) (s t : Int) : Int × Row := if 0 ≤ s ∧ s ≤ 11 ∧ 1 ≤ t ∧ t ≤ 12 then (if r 0 < 12 ∧ ymk (ytot r + t) (r 2) (r 3) ≤ 100 then (r 0, yu1 (yu1 (yu1 r (46 + (r 0).toNat) s) (58 + (r 0).toNat) t) 0 (r 0 + 1)) else (-3, r)) else (-1, r)
def rOut (r : Row) (i : Nat) : Row := fun j => if j = 0 then r 0 - 1 else if (46 + i ≤ j ∧ j < 45 + (r 0).toNat) ∨ (58 + i ≤ j ∧ j < 57 + (r 0).toNat) then r (j + 1) else r j
def sOut (r : Row) (i : Int) : Int × Row := if 0 ≤ i ∧ i < r 0 then (r 0 - 1, rOut r i.toNat) else (-1, r)
def sFrame (r : Row) (a b : Int) : Int × Row := if 1 ≤ a ∧ a ≤ 12 ∧ 1 ≤ b ∧ b ≤ 2 then (if r 2 = a ∧ r 3 = b then (-2, r) else if ymk (ytot r) a b ≤ 100 then (10 * r 2 + r 3, yu1 (yu1 r 2 a) 3 b) else (-3, r)) else (-1, r)
def sWindow (r : Row) (w : Int) : Int × Row := if 0 ≤ w ∧ w ≤ 3 then (if r 4 = w then (-2, r) else (r 4, yu1 r 4 w)) else (-1, r)
def rForget (r : Row) (j : Nat) : Row := fun k => if k = 1 then r 1 - 1 else if 70 + 8 * j ≤ k ∧ k < 62 + 8 * (r 1).toNat then r (k + 8) else r k
def sForget (r : Row) (j : Int) : Int × Row := if 0 ≤ j ∧ j < r 1 then (r 1 - 1, rForget r j.toNat) else (-1, r)
section TELLS
variable {S L : Nat} {F G : Nat → Nat → Int} {h : Nat → Nat → Option Nat} {Q : Option V2 → W2 → Prop}
theorem K29 (hh : RfH h) {a0 a1 a2 : Int} (h0 : 0 ≤ a0 ∧ a0 ≤ 1000) (h1 : 1 ≤ a1 ∧ a1 ≤ 12) (h2 : 1 ≤ a2 ∧ a2 ≤ 2) (H : Q (some (vi (ymk a0 a1 a2))) (Wd S L F G h)) : C29_0 a0 a1 a2 (Wd S L F G h) Q := by
  have hp : 0 ≤ 2 * a0 * a2 ∧ 2 * a0 * a2 ≤ 4000 := by
    have : a2 = 1 ∨ a2 = 2 := by omega
    rcases this with rfl | rfl <;> omega
  refine T29_0 hh ⟨by omega, by omega, ?_⟩
  rw [if_neg (by omega)]
  exact ⟨by omega, H⟩
theorem ymk_bd {t a b : Int} (h0 : 0 ≤ t ∧ t ≤ 1000) (h1 : 1 ≤ a ∧ a ≤ 12) (h2 : 1 ≤ b ∧ b ≤ 2) : 0 ≤ ymk t a b ∧ ymk t a b ≤ 4012 := by
  have hp : 0 ≤ 2 * t * b ∧ 2 * t * b ≤ 4000 := by
    have : b = 1 ∨ b = 2 := by omega
    rcases this with rfl | rfl <;> omega
  unfold ymk
  refine ⟨Int.ediv_nonneg (by omega) (by omega), ?_⟩
  refine Int.le_trans (Int.ediv_le_self _ (by omega)) (by omega)
theorem L27 (hh : RfH h) {r : Row} (t : Ytk F 1 r) {a : Int} (ha : 0 ≤ a ∧ a ≤ 12) (H : Q (some (vi (ysm (fun k => r (58 + k)) a.toNat))) (Wd S L F G h)) : ∀ (m k : Nat), k + m = a.toNat → C27_4 a (ysm (fun k => r (58 + k)) k) (k : Int) (Wd S L F G h) Q
  | 0, k, e => by
    refine T27_4 hh ⟨by omega, by omega, ?_⟩
    rw [if_pos (by omega)]
    have : k = a.toNat := by omega
    subst this; exact H
  | m + 1, k, e => by
    refine T27_4 hh ⟨by omega, by omega, ?_⟩
    rw [if_neg (by omega)]
    refine ⟨by omega, ?_⟩
    have h1 : F 7 (k : Int).toNat = r (58 + k) := t.tm1 k (by omega)
    rw [h1]
    exact L27 hh t ha H m (k + 1) (by omega)
theorem K27 (hh : RfH h) {r : Row} (t : Ytk F 1 r) {a : Int} (ha : 0 ≤ a ∧ a ≤ 12) (H : Q (some (vi (ysm (fun k => r (58 + k)) a.toNat))) (Wd S L F G h)) : C27_0 a (Wd S L F G h) Q :=
  T27_0 hh (L27 hh t ha H a.toNat 0 (by omega))
theorem K30 (hh : RfH h) {r : Row} (t : Ytk F 1 r) (v : Yvd r) {k o w : Int} (r1 : R32 k) (r2 : R32 o) (r3 : R32 w)
    (H : ∀ (x : Int) (r' : Row) (F' : Nat → Nat → Int), sShape r k o w = (x, r') → Ytk F' 1 r' → (∀ p, p = 0 ∨ 19 ≤ p → F' p = F p) → Q (some (vi x)) (Wd S L F' G h)) : C30_0 k o w (Wd S L F G h) Q := by
  refine T30_0 hh ⟨r1, ?_⟩
  split
  · exact H (-1) r F (by unfold sShape; rw [if_neg (by omega)]) t (fun p hp => rfl)
  split
  · exact H (-1) r F (by unfold sShape; rw [if_neg (by omega)]) t (fun p hp => rfl)
  refine ⟨r2, ?_⟩
  split
  · exact H (-1) r F (by unfold sShape; rw [if_neg (by omega)]) t (fun p hp => rfl)
  split
  · exact H (-1) r F (by unfold sShape; rw [if_neg (by omega)]) t (fun p hp => rfl)
  refine ⟨r3, ?_⟩
  split
  · exact H (-1) r F (by unfold sShape; rw [if_neg (by omega)]) t (fun p hp => rfl)
  split
  · exact H (-1) r F (by unfold sShape; rw [if_neg (by omega)]) t (fun p hp => rfl)
  have ha := v.op k.toNat (by omega)
  have hb := v.wd k.toNat (by omega)
  have ea := t.op1 k.toNat (by omega)
  have eb := t.wd1 k.toNat (by omega)
  have hgo : ¬ (r (6 + k.toNat) = o ∧ r (14 + k.toNat) = w) → Q (some (vi (13 * F 2 k.toNat + F 3 k.toNat))) (Wd S L (am_up (am_up F 2 k.toNat o) 3 k.toNat w) G h) := fun hne => by
    refine H _ (yu1 (yu1 r (6 + k.toNat) o) (14 + k.toNat) w) _ ?_ ?_ ?_
    · unfold sShape; rw [if_pos (by omega), if_neg hne, ea, eb]
    · refine Ytk.mk1 ⟨?_,
        ?_,
        ?_,
        ?_,
        ?_,
        ?_,
        ?_,
        ?_,
        ?_,
        ?_,
        ?_,
        ?_,
        ?_,
        ?_,
        ?_⟩
      · have := t.n1
        simp only [am_up, yu1, if_true]
        repeat' split
        all_goals omega
      · have := t.lo1
        simp only [am_up, yu1, if_true]
        repeat' split
        all_goals omega
      · have := t.by1
        simp only [am_up, yu1, if_true]
        repeat' split
        all_goals omega
      · have := t.wi1
        simp only [am_up, yu1, if_true]
        repeat' split
        all_goals omega
      · have := t.w1
        simp only [am_up, yu1, if_true]
        repeat' split
        all_goals omega
      · have := t.dr1
        simp only [am_up, yu1, if_true]
        repeat' split
        all_goals omega
      · intro k' hk'
        have := t.op1 k' hk'
        simp only [am_up, yu1, if_true]
        repeat' split
        all_goals omega
      · intro k' hk'
        have := t.wd1 k' hk'
        simp only [am_up, yu1, if_true]
        repeat' split
        all_goals omega
      · intro k' hk'
        have := t.sh1 k' hk'
        simp only [am_up, yu1, if_true]
        repeat' split
        all_goals omega
      · intro k' hk'
        have := t.pu1 k' hk'
        simp only [am_up, yu1, if_true]
        repeat' split
        all_goals omega
      · intro k' hk'
        have := t.sg1 k' hk'
        simp only [am_up, yu1, if_true]
        repeat' split
        all_goals omega
      · intro k' hk'
        have := t.tm1 k' hk'
        simp only [am_up, yu1, if_true]
        repeat' split
        all_goals omega
      · intro k' hk'
        have := t.wt1 k' hk'
        simp only [am_up, yu1, if_true]
        repeat' split
        all_goals omega
      · intro k' hk'
        have := t.sz1 k' hk'
        simp only [am_up, yu1, if_true]
        repeat' split
        all_goals omega
      · intro j hj k' hk' hl
        have hl2 : (k' : Int) < r (71 + 8 * j) := by
          simp only [yu1] at hl
          rw [if_neg (by omega), if_neg (by omega)] at hl
          exact hl
        have := t.lt1 j hj k' hk' hl2
        simp only [am_up, yu1, if_true]
        repeat' split
        all_goals omega
    · intro p hp
      funext q
      simp only [am_up]
      rw [if_neg (by omega), if_neg (by omega)]
  refine ⟨by omega, by omega, ?_⟩
  split
  · refine ⟨by omega, ?_⟩
    split
    · exact H (-2) r F (by unfold sShape; rw [if_pos (by omega), if_pos (by omega)]) t (fun p hp => rfl)
    · exact hgo (by omega)
  · exact hgo (by omega)
theorem K31 (hh : RfH h) {r : Row} (t : Ytk F 1 r) (v : Yvd r) {k o w : Int} (r1 : R32 k) (r2 : R32 o) (r3 : R32 w)
    (H : ∀ (x : Int) (r' : Row) (F' : Nat → Nat → Int), sSign r k o w = (x, r') → Ytk F' 1 r' → (∀ p, p = 0 ∨ 19 ≤ p → F' p = F p) → Q (some (vi x)) (Wd S L F' G h)) : C31_0 k o w (Wd S L F G h) Q := by
  refine T31_0 hh ⟨r1, ?_⟩
  split
  · exact H (-1) r F (by unfold sSign; rw [if_neg (by omega)]) t (fun p hp => rfl)
  split
  · exact H (-1) r F (by unfold sSign; rw [if_neg (by omega)]) t (fun p hp => rfl)
  refine ⟨r2, ?_⟩
  split
  · exact H (-1) r F (by unfold sSign; rw [if_neg (by omega)]) t (fun p hp => rfl)
  split
  · exact H (-1) r F (by unfold sSign; rw [if_neg (by omega)]) t (fun p hp => rfl)
  refine ⟨r3, ?_⟩
  split
  · exact H (-1) r F (by unfold sSign; rw [if_neg (by omega)]) t (fun p hp => rfl)
  split
  · exact H (-1) r F (by unfold sSign; rw [if_neg (by omega)]) t (fun p hp => rfl)
  have ha := v.sh k.toNat (by omega)
  have hb := v.pu k.toNat (by omega)
  have ea := t.sh1 k.toNat (by omega)
  have eb := t.pu1 k.toNat (by omega)
  have hgo : ¬ (r (22 + k.toNat) = o ∧ r (34 + k.toNat) = w) → Q (some (vi (6 * F 4 k.toNat + F 5 k.toNat))) (Wd S L (am_up (am_up F 4 k.toNat o) 5 k.toNat w) G h) := fun hne => by
    refine H _ (yu1 (yu1 r (22 + k.toNat) o) (34 + k.toNat) w) _ ?_ ?_ ?_
    · unfold sSign; rw [if_pos (by omega), if_neg hne, ea, eb]
    · refine Ytk.mk1 ⟨?_,
        ?_,
        ?_,
        ?_,
        ?_,
        ?_,
        ?_,
        ?_,
        ?_,
        ?_,
        ?_,
        ?_,
        ?_,
        ?_,
        ?_⟩
      · have := t.n1
        simp only [am_up, yu1, if_true]
        repeat' split
        all_goals omega
      · have := t.lo1
        simp only [am_up, yu1, if_true]
        repeat' split
        all_goals omega
      · have := t.by1
        simp only [am_up, yu1, if_true]
        repeat' split
        all_goals omega
      · have := t.wi1
        simp only [am_up, yu1, if_true]
        repeat' split
        all_goals omega
      · have := t.w1
        simp only [am_up, yu1, if_true]
        repeat' split
        all_goals omega
      · have := t.dr1
        simp only [am_up, yu1, if_true]
        repeat' split
        all_goals omega
      · intro k' hk'
        have := t.op1 k' hk'
        simp only [am_up, yu1, if_true]
        repeat' split
        all_goals omega
      · intro k' hk'
        have := t.wd1 k' hk'
        simp only [am_up, yu1, if_true]
        repeat' split
        all_goals omega
      · intro k' hk'
        have := t.sh1 k' hk'
        simp only [am_up, yu1, if_true]
        repeat' split
        all_goals omega
      · intro k' hk'
        have := t.pu1 k' hk'
        simp only [am_up, yu1, if_true]
        repeat' split
        all_goals omega
      · intro k' hk'
        have := t.sg1 k' hk'
        simp only [am_up, yu1, if_true]
        repeat' split
        all_goals omega
      · intro k' hk'
        have := t.tm1 k' hk'
        simp only [am_up, yu1, if_true]
        repeat' split
        all_goals omega
      · intro k' hk'
        have := t.wt1 k' hk'
        simp only [am_up, yu1, if_true]
        repeat' split
        all_goals omega
      · intro k' hk'
        have := t.sz1 k' hk'
        simp only [am_up, yu1, if_true]
        repeat' split
        all_goals omega
      · intro j hj k' hk' hl
        have hl2 : (k' : Int) < r (71 + 8 * j) := by
          simp only [yu1] at hl
          rw [if_neg (by omega), if_neg (by omega)] at hl
          exact hl
        have := t.lt1 j hj k' hk' hl2
        simp only [am_up, yu1, if_true]
        repeat' split
        all_goals omega
    · intro p hp
      funext q
      simp only [am_up]
      rw [if_neg (by omega), if_neg (by omega)]
  refine ⟨by omega, by omega, ?_⟩
  split
  · refine ⟨by omega, ?_⟩
    split
    · exact H (-2) r F (by unfold sSign; rw [if_pos (by omega), if_pos (by omega)]) t (fun p hp => rfl)
    · exact hgo (by omega)
  · exact hgo (by omega)
end TELLS
