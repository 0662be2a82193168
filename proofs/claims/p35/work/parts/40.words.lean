/-! word, guess, seen -/
def yapp (l : List Int) (d : Int) : List Int := match l with
  | [] => [d]
  | e :: r => if e = d then e :: r else d :: e :: r
def e8 : List Int → Int
  | [] => 1
  | d :: l => e8 l * 8 + d
def e9 : List Int → Int
  | [] => 0
  | d :: l => 9 * e9 l + d + 1
def y8 : Nat → Int
  | 0 => 2
  | n + 1 => 8 * y8 n
def y9 : Nat → Int
  | 0 => 1
  | n + 1 => 9 * y9 n
def Dg (l : List Int) : Prop := ∀ d, d ∈ l → 0 ≤ d ∧ d < 8
def ylk (f : Nat → Int) : Nat → List Int
  | 0 => []
  | n + 1 => yapp (ylk f n) (f n)
theorem Dg.app {l : List Int} (h : Dg l) {d : Int} (hd : 0 ≤ d ∧ d < 8) : Dg (yapp l d) := by
  cases l with
  | nil => intro x hx; simp [yapp] at hx; omega
  | cons e r =>
    unfold yapp
    dsimp only
    split
    · exact h
    · intro x hx
      rcases List.mem_cons.mp hx with q | q
      · omega
      · exact h x q
theorem yapp_len (l : List Int) (d : Int) : (yapp l d).length ≤ l.length + 1 := by
  cases l with
  | nil => simp [yapp]
  | cons e r =>
    unfold yapp
    dsimp only
    split
    · simp
    · simp
theorem ylk_len (f : Nat → Int) : ∀ n, (ylk f n).length ≤ n
  | 0 => by simp [ylk]
  | n + 1 => by
    have h1 := ylk_len f n
    have h2 := yapp_len (ylk f n) (f n)
    show (yapp (ylk f n) (f n)).length ≤ n + 1
    omega
theorem ylk_dg {f : Nat → Int} : ∀ {n : Nat}, (∀ k, k < n → 0 ≤ f k ∧ f k < 8) → Dg (ylk f n)
  | 0, _ => by intro x hx; simp [ylk] at hx
  | n + 1, h => (ylk_dg (n := n) (fun k hk => h k (by omega))).app (h n (by omega))
theorem ylk_cong {f g : Nat → Int} : ∀ {n : Nat}, (∀ k, k < n → f k = g k) → ylk f n = ylk g n
  | 0, _ => rfl
  | n + 1, h => by
    show yapp (ylk f n) (f n) = yapp (ylk g n) (g n)
    rw [ylk_cong (fun k hk => h k (by omega)), h n (by omega)]
theorem ylk_ne {f : Nat → Int} : ∀ {n : Nat}, 1 ≤ n → ylk f n ≠ []
  | n + 1, _ => by
    show yapp (ylk f n) (f n) ≠ []
    cases ylk f n with
    | nil => simp [yapp]
    | cons e r =>
      unfold yapp
      dsimp only
      split <;> simp
theorem Dg.tl {d : Int} {l : List Int} (h : Dg (d :: l)) : Dg l := fun x hx => h x (List.mem_cons_of_mem d hx)
theorem Dg.hd {d : Int} {l : List Int} (h : Dg (d :: l)) : 0 ≤ d ∧ d < 8 := h d List.mem_cons_self
theorem e8_bd : ∀ {l : List Int}, Dg l → 1 ≤ e8 l ∧ e8 l < y8 l.length
  | [], _ => by decide
  | d :: l, h => by
    have h1 := e8_bd h.tl
    have h2 := h.hd
    show 1 ≤ e8 l * 8 + d ∧ e8 l * 8 + d < 8 * y8 l.length
    omega
theorem e9_bd : ∀ {l : List Int}, Dg l → 0 ≤ e9 l ∧ e9 l < y9 l.length
  | [], _ => by decide
  | d :: l, h => by
    have h1 := e9_bd h.tl
    have h2 := h.hd
    show 0 ≤ 9 * e9 l + d + 1 ∧ 9 * e9 l + d + 1 < 9 * y9 l.length
    omega
theorem y89 {n : Nat} (h : n ≤ 6) : y8 n ≤ 600000 ∧ y9 n ≤ 600000 := by
  have : n = 0 ∨ n = 1 ∨ n = 2 ∨ n = 3 ∨ n = 4 ∨ n = 5 ∨ n = 6 := by omega
  rcases this with rfl | rfl | rfl | rfl | rfl | rfl | rfl <;> decide
theorem e8_b {l : List Int} (h : Dg l) (hl : l.length ≤ 6) : 1 ≤ e8 l ∧ e8 l ≤ 600000 := by
  have h1 := e8_bd h
  have h2 := y89 hl
  omega
theorem e9_b {l : List Int} (h : Dg l) (hl : l.length ≤ 6) : 0 ≤ e9 l ∧ e9 l ≤ 600000 := by
  have h1 := e9_bd h
  have h2 := y89 hl
  omega
theorem e8_inj : ∀ {a b : List Int}, Dg a → Dg b → e8 a = e8 b → a = b
  | [], [], _, _, _ => rfl
  | [], d :: l, _, hb, e => by
    have h1 := (e8_bd hb.tl).1
    have h2 := hb.hd
    have e' : (1 : Int) = e8 l * 8 + d := e
    omega
  | d :: l, [], ha, _, e => by
    have h1 := (e8_bd ha.tl).1
    have h2 := ha.hd
    have e' : e8 l * 8 + d = (1 : Int) := e
    omega
  | d :: l, d2 :: l2, ha, hb, e => by
    have h2 := ha.hd
    have h3 := hb.hd
    have e' : e8 l * 8 + d = e8 l2 * 8 + d2 := e
    have e1 : d = d2 := by omega
    have e2 : e8 l = e8 l2 := by omega
    rw [e1, e8_inj ha.tl hb.tl e2]
theorem e9_inj : ∀ {a b : List Int}, Dg a → Dg b → e9 a = e9 b → a = b
  | [], [], _, _, _ => rfl
  | [], d :: l, _, hb, e => by
    have h1 := (e9_bd hb.tl).1
    have h2 := hb.hd
    have e' : (0 : Int) = 9 * e9 l + d + 1 := e
    omega
  | d :: l, [], ha, _, e => by
    have h1 := (e9_bd ha.tl).1
    have h2 := ha.hd
    have e' : 9 * e9 l + d + 1 = (0 : Int) := e
    omega
  | d :: l, d2 :: l2, ha, hb, e => by
    have h2 := ha.hd
    have h3 := hb.hd
    have e' : 9 * e9 l + d + 1 = 9 * e9 l2 + d2 + 1 := e
    have e1 : d = d2 := by omega
    have e2 : e9 l = e9 l2 := by omega
    rw [e1, e9_inj ha.tl hb.tl e2]
theorem e8_step {l : List Int} (h : Dg l) (hl : l.length ≤ 6) {d : Int} (hd : 0 ≤ d ∧ d < 8) {C : Int → Prop} (H : C (e8 (yapp l d))) :
    (if e8 l < 8 then C (e8 l * 8 + d) else (((0 : Int) ≤ e8 l ∧ e8 l ≤ 2147483647) ∧ R32 (e8 l % 8) ∧ R32 d ∧ (if e8 l % 8 = d then C (e8 l) else C (e8 l * 8 + d)))) := by
  have hb := e8_b h hl
  cases l with
  | nil => exact H
  | cons e r =>
    have h1 := (e8_bd h.tl).1
    have h2 := h.hd
    have he : e8 (e :: r) = e8 r * 8 + e := rfl
    rw [if_neg (by omega)]
    refine ⟨by omega, by omega, by omega, ?_⟩
    have hm : e8 (e :: r) % 8 = e := by omega
    rw [hm]
    unfold yapp at H
    dsimp only at H
    by_cases c : e = d
    · rw [if_pos c] at H ⊢; exact H
    · rw [if_neg c] at H ⊢; exact H
theorem e9_step {l : List Int} (h : Dg l) (hl : l.length ≤ 6) {d : Int} (hd : 0 ≤ d ∧ d < 8) {C : Int → Prop} (H : C (e9 (yapp l d))) :
    (((0 : Int) ≤ e9 l ∧ e9 l ≤ 2147483647) ∧ R32 (e9 l % 9) ∧ R32 (d + 1) ∧ (if e9 l % 9 = d + 1 then C (e9 l) else C (9 * e9 l + d + 1))) := by
  have hb := e9_b h hl
  refine ⟨by omega, by omega, by omega, ?_⟩
  cases l with
  | nil =>
    have e0 : e9 [] = 0 := rfl
    rw [if_neg (by omega)]
    exact H
  | cons e r =>
    have h1 := (e9_bd h.tl).1
    have h2 := h.hd
    have he : e9 (e :: r) = 9 * e9 r + e + 1 := rfl
    have hm : e9 (e :: r) % 9 = e + 1 := by omega
    rw [hm]
    unfold yapp at H
    dsimp only at H
    by_cases c : e = d
    · rw [if_pos c] at H
      rw [if_pos (by omega)]; exact H
    · rw [if_neg c] at H
      rw [if_neg (by omega)]; exact H
def wlk (r : Row) (j : Nat) : List Int := ylk (fun k => r (22 + (r (72 + 8 * j + k)).toNat)) (r (71 + 8 * j)).toNat
theorem wlk_dg {r : Row} (v : Yvd r) {j : Nat} (hj : j < 8) : Dg (wlk r j) := by
  have hs := v.sz j hj
  refine ylk_dg (fun k hk => ?_)
  have := v.lt j hj k (by omega)
  exact v.sh _ (by omega)
theorem wlk_len {r : Row} (v : Yvd r) {j : Nat} (hj : j < 8) : (wlk r j).length ≤ 6 := by
  have hs := v.sz j hj
  have := ylk_len (fun k => r (22 + (r (72 + 8 * j + k)).toNat)) (r (71 + 8 * j)).toNat
  unfold wlk
  omega
/-! sets -/
def yset (P : Nat → Bool) : Nat → Nat
  | 0 => 0
  | n + 1 => if P n then 2 ^ n + yset P n else yset P n
theorem yset_lt (P : Nat → Bool) : ∀ n, yset P n < 2 ^ n
  | 0 => by show 0 < 2 ^ 0; decide
  | n + 1 => by
    have h := yset_lt P n
    have e : 2 ^ (n + 1) = 2 ^ n + 2 ^ n := by rw [Nat.pow_succ]; omega
    show (if P n then 2 ^ n + yset P n else yset P n) < 2 ^ (n + 1)
    split <;> omega
theorem yset_256 (P : Nat → Bool) {n : Nat} (h : n ≤ 8) : yset P n < 256 := Nat.lt_of_lt_of_le (yset_lt P n) (Nat.pow_le_pow_right (by decide) h)
theorem yset_bit (P : Nat → Bool) : ∀ {n k : Nat}, k < n → (yset P n).testBit k = P k
  | n + 1, k, h => by
    have hl := yset_lt P n
    show (if P n then 2 ^ n + yset P n else yset P n).testBit k = P k
    by_cases c : k = n
    · subst c
      by_cases d : P k = true
      · rw [if_pos d, Nat.testBit_two_pow_add_eq, Nat.testBit_lt_two_pow hl, d]; rfl
      · rw [if_neg d, Nat.testBit_lt_two_pow hl]
        simp at d
        rw [d]
    · by_cases d : P n = true
      · rw [if_pos d, Nat.testBit_two_pow_add_gt (by omega)]
        exact yset_bit P (by omega)
      · rw [if_neg d]
        exact yset_bit P (by omega)
theorem yset_cong {P P' : Nat → Bool} : ∀ {n : Nat}, (∀ k, k < n → P k = P' k) → yset P n = yset P' n
  | 0, _ => rfl
  | n + 1, h => by
    show (if P n then 2 ^ n + yset P n else yset P n) = (if P' n then 2 ^ n + yset P' n else yset P' n)
    rw [yset_cong (fun k hk => h k (by omega)), h n (by omega)]
theorem yor_dec : ∀ k : Fin 8, ∀ s : Fin 256, s.val < 2 ^ k.val → (Int32.ofInt ((s.val : Nat) : Int) ||| Int32.ofInt ((Int32.ofInt 1 <<< (Int32.ofInt ((k.val : Nat) : Int) &&& 31)).toInt)).toInt = ((2 ^ k.val + s.val : Nat) : Int) := by decide +kernel
theorem yor {k s : Nat} (hk : k < 8) (hs : s < 2 ^ k) : (Int32.ofInt (s : Int) ||| Int32.ofInt ((Int32.ofInt 1 <<< (Int32.ofInt (k : Int) &&& 31)).toInt)).toInt = ((2 ^ k + s : Nat) : Int) :=
  yor_dec ⟨k, hk⟩ ⟨s, Nat.lt_of_lt_of_le hs (Nat.le_trans (Nat.pow_le_pow_right (by decide) (Nat.le_of_lt hk)) (by decide))⟩ hs
theorem yor0_dec : ∀ s : Fin 256, (Int32.ofInt ((s.val : Nat) : Int) ||| Int32.ofInt 0).toInt = ((s.val : Nat) : Int) := by decide +kernel
theorem yor0 {k s : Nat} (hk : k < 8) (hs : s < 2 ^ k) : (Int32.ofInt (s : Int) ||| Int32.ofInt 0).toInt = (s : Int) :=
  yor0_dec ⟨s, Nat.lt_of_lt_of_le hs (Nat.le_trans (Nat.pow_le_pow_right (by decide) (Nat.le_of_lt hk)) (by decide))⟩
theorem ybt_dec : ∀ k : Fin 8, ∀ s : Fin 256, (Int32.ofInt ((Int32.ofInt ((s.val : Nat) : Int) >>> (Int32.ofInt ((k.val : Nat) : Int) &&& 31)).toInt) &&& Int32.ofInt 1).toInt = (if s.val.testBit k.val then 1 else 0) ∧ ((Int32.ofInt ((s.val : Nat) : Int) >>> (Int32.ofInt ((k.val : Nat) : Int) &&& 31)).toInt) % 2 = (if s.val.testBit k.val then 1 else 0) ∧ 0 ≤ ((Int32.ofInt ((s.val : Nat) : Int) >>> (Int32.ofInt ((k.val : Nat) : Int) &&& 31)).toInt) ∧ ((Int32.ofInt ((s.val : Nat) : Int) >>> (Int32.ofInt ((k.val : Nat) : Int) &&& 31)).toInt) ≤ 255 := by decide +kernel
theorem ybt {k s : Nat} (hk : k < 8) (hs : s < 256) : (Int32.ofInt ((Int32.ofInt (s : Int) >>> (Int32.ofInt (k : Int) &&& 31)).toInt) &&& Int32.ofInt 1).toInt = (if s.testBit k then 1 else 0) ∧ ((Int32.ofInt (s : Int) >>> (Int32.ofInt (k : Int) &&& 31)).toInt) % 2 = (if s.testBit k then 1 else 0) ∧ 0 ≤ ((Int32.ofInt (s : Int) >>> (Int32.ofInt (k : Int) &&& 31)).toInt) ∧ ((Int32.ofInt (s : Int) >>> (Int32.ofInt (k : Int) &&& 31)).toInt) ≤ 255 := ybt_dec ⟨k, hk⟩ ⟨s, hs⟩
def ypl : Nat → Int → Int → Option Int
  | 0, _, _ => none
  | m + 1, c, x => if x = 0 then some c else ypl m (c + 1) ((Int32.ofInt x &&& Int32.ofInt (x - 1)).toInt)
def ybc (s : Nat) : Int := (ypl 9 0 (s : Int)).getD 0
def ybx (a0 : Int) : Int := ((Int32.ofInt ((((Int32.ofInt ((((Int32.ofInt (a0 - ((Int32.ofInt (((Int32.ofInt a0).toUInt32 >>> ((Int32.ofInt 1).toUInt32 &&& Int32.toUInt32 31)).toInt32.toInt) &&& Int32.ofInt 1431655765).toInt)) &&& Int32.ofInt 858993459).toInt) + ((Int32.ofInt (((Int32.ofInt (a0 - ((Int32.ofInt (((Int32.ofInt a0).toUInt32 >>> ((Int32.ofInt 1).toUInt32 &&& Int32.toUInt32 31)).toInt32.toInt) &&& Int32.ofInt 1431655765).toInt))).toUInt32 >>> ((Int32.ofInt 2).toUInt32 &&& Int32.toUInt32 31)).toInt32.toInt) &&& Int32.ofInt 858993459).toInt)) + (((Int32.ofInt (((Int32.ofInt (a0 - ((Int32.ofInt (((Int32.ofInt a0).toUInt32 >>> ((Int32.ofInt 1).toUInt32 &&& Int32.toUInt32 31)).toInt32.toInt) &&& Int32.ofInt 1431655765).toInt)) &&& Int32.ofInt 858993459).toInt) + ((Int32.ofInt (((Int32.ofInt (a0 - ((Int32.ofInt (((Int32.ofInt a0).toUInt32 >>> ((Int32.ofInt 1).toUInt32 &&& Int32.toUInt32 31)).toInt32.toInt) &&& Int32.ofInt 1431655765).toInt))).toUInt32 >>> ((Int32.ofInt 2).toUInt32 &&& Int32.toUInt32 31)).toInt32.toInt) &&& Int32.ofInt 858993459).toInt))).toUInt32 >>> ((Int32.ofInt 4).toUInt32 &&& Int32.toUInt32 31)).toInt32.toInt)) &&& Int32.ofInt 252645135).toInt) + (((Int32.ofInt ((Int32.ofInt ((((Int32.ofInt (a0 - ((Int32.ofInt (((Int32.ofInt a0).toUInt32 >>> ((Int32.ofInt 1).toUInt32 &&& Int32.toUInt32 31)).toInt32.toInt) &&& Int32.ofInt 1431655765).toInt)) &&& Int32.ofInt 858993459).toInt) + ((Int32.ofInt (((Int32.ofInt (a0 - ((Int32.ofInt (((Int32.ofInt a0).toUInt32 >>> ((Int32.ofInt 1).toUInt32 &&& Int32.toUInt32 31)).toInt32.toInt) &&& Int32.ofInt 1431655765).toInt))).toUInt32 >>> ((Int32.ofInt 2).toUInt32 &&& Int32.toUInt32 31)).toInt32.toInt) &&& Int32.ofInt 858993459).toInt)) + (((Int32.ofInt (((Int32.ofInt (a0 - ((Int32.ofInt (((Int32.ofInt a0).toUInt32 >>> ((Int32.ofInt 1).toUInt32 &&& Int32.toUInt32 31)).toInt32.toInt) &&& Int32.ofInt 1431655765).toInt)) &&& Int32.ofInt 858993459).toInt) + ((Int32.ofInt (((Int32.ofInt (a0 - ((Int32.ofInt (((Int32.ofInt a0).toUInt32 >>> ((Int32.ofInt 1).toUInt32 &&& Int32.toUInt32 31)).toInt32.toInt) &&& Int32.ofInt 1431655765).toInt))).toUInt32 >>> ((Int32.ofInt 2).toUInt32 &&& Int32.toUInt32 31)).toInt32.toInt) &&& Int32.ofInt 858993459).toInt))).toUInt32 >>> ((Int32.ofInt 4).toUInt32 &&& Int32.toUInt32 31)).toInt32.toInt)) &&& Int32.ofInt 252645135).toInt)).toUInt32 >>> ((Int32.ofInt 8).toUInt32 &&& Int32.toUInt32 31)).toInt32.toInt)) + (((Int32.ofInt (((Int32.ofInt ((((Int32.ofInt (a0 - ((Int32.ofInt (((Int32.ofInt a0).toUInt32 >>> ((Int32.ofInt 1).toUInt32 &&& Int32.toUInt32 31)).toInt32.toInt) &&& Int32.ofInt 1431655765).toInt)) &&& Int32.ofInt 858993459).toInt) + ((Int32.ofInt (((Int32.ofInt (a0 - ((Int32.ofInt (((Int32.ofInt a0).toUInt32 >>> ((Int32.ofInt 1).toUInt32 &&& Int32.toUInt32 31)).toInt32.toInt) &&& Int32.ofInt 1431655765).toInt))).toUInt32 >>> ((Int32.ofInt 2).toUInt32 &&& Int32.toUInt32 31)).toInt32.toInt) &&& Int32.ofInt 858993459).toInt)) + (((Int32.ofInt (((Int32.ofInt (a0 - ((Int32.ofInt (((Int32.ofInt a0).toUInt32 >>> ((Int32.ofInt 1).toUInt32 &&& Int32.toUInt32 31)).toInt32.toInt) &&& Int32.ofInt 1431655765).toInt)) &&& Int32.ofInt 858993459).toInt) + ((Int32.ofInt (((Int32.ofInt (a0 - ((Int32.ofInt (((Int32.ofInt a0).toUInt32 >>> ((Int32.ofInt 1).toUInt32 &&& Int32.toUInt32 31)).toInt32.toInt) &&& Int32.ofInt 1431655765).toInt))).toUInt32 >>> ((Int32.ofInt 2).toUInt32 &&& Int32.toUInt32 31)).toInt32.toInt) &&& Int32.ofInt 858993459).toInt))).toUInt32 >>> ((Int32.ofInt 4).toUInt32 &&& Int32.toUInt32 31)).toInt32.toInt)) &&& Int32.ofInt 252645135).toInt) + (((Int32.ofInt ((Int32.ofInt ((((Int32.ofInt (a0 - ((Int32.ofInt (((Int32.ofInt a0).toUInt32 >>> ((Int32.ofInt 1).toUInt32 &&& Int32.toUInt32 31)).toInt32.toInt) &&& Int32.ofInt 1431655765).toInt)) &&& Int32.ofInt 858993459).toInt) + ((Int32.ofInt (((Int32.ofInt (a0 - ((Int32.ofInt (((Int32.ofInt a0).toUInt32 >>> ((Int32.ofInt 1).toUInt32 &&& Int32.toUInt32 31)).toInt32.toInt) &&& Int32.ofInt 1431655765).toInt))).toUInt32 >>> ((Int32.ofInt 2).toUInt32 &&& Int32.toUInt32 31)).toInt32.toInt) &&& Int32.ofInt 858993459).toInt)) + (((Int32.ofInt (((Int32.ofInt (a0 - ((Int32.ofInt (((Int32.ofInt a0).toUInt32 >>> ((Int32.ofInt 1).toUInt32 &&& Int32.toUInt32 31)).toInt32.toInt) &&& Int32.ofInt 1431655765).toInt)) &&& Int32.ofInt 858993459).toInt) + ((Int32.ofInt (((Int32.ofInt (a0 - ((Int32.ofInt (((Int32.ofInt a0).toUInt32 >>> ((Int32.ofInt 1).toUInt32 &&& Int32.toUInt32 31)).toInt32.toInt) &&& Int32.ofInt 1431655765).toInt))).toUInt32 >>> ((Int32.ofInt 2).toUInt32 &&& Int32.toUInt32 31)).toInt32.toInt) &&& Int32.ofInt 858993459).toInt))).toUInt32 >>> ((Int32.ofInt 4).toUInt32 &&& Int32.toUInt32 31)).toInt32.toInt)) &&& Int32.ofInt 252645135).toInt)).toUInt32 >>> ((Int32.ofInt 8).toUInt32 &&& Int32.toUInt32 31)).toInt32.toInt))).toUInt32 >>> ((Int32.ofInt 16).toUInt32 &&& Int32.toUInt32 31)).toInt32.toInt)) &&& Int32.ofInt 63).toInt)
theorem ybx_dec : ∀ s : Fin 256, ybx ((s.val : Nat) : Int) = ybc s.val ∧ ypl 9 0 ((s.val : Nat) : Int) = some (ybc s.val) ∧ 0 ≤ ybc s.val ∧ ybc s.val ≤ 8 := by decide +kernel
theorem yfst {P : Nat → Bool} : ∀ {j : Nat}, P j = true → ∃ m, m ≤ j ∧ P m = true ∧ ∀ k, k < m → P k = false := by
  intro j
  induction j using Nat.strongRecOn with
  | ind j ih =>
    intro hj
    by_cases c : ∃ k, k < j ∧ P k = true
    · obtain ⟨k, h1, h2⟩ := c
      obtain ⟨m, a, b, d⟩ := ih k h1 h2
      exact ⟨m, by omega, b, d⟩
    · refine ⟨j, by omega, hj, fun k hk => ?_⟩
      cases e : P k
      · rfl
      · exact absurd ⟨k, hk, e⟩ c
section WORDS
variable {S L : Nat} {F G : Nat → Nat → Int} {h : Nat → Nat → Option Nat} {Q : Option V2 → W2 → Prop}
theorem L110 (hh : RfH h) {s m : Nat} (hs : s < 256) (hm : m < 8) (h1 : s.testBit m = true) (h2 : ∀ k, k < m → s.testBit k = false) (H : Q (some (vi (m : Int))) (Wd S L F G h)) : ∀ (d k : Nat), k + d = m → C110_2 (s : Int) (k : Int) (Wd S L F G h) Q
  | 0, k, e => by
    have : k = m := by omega
    subst this
    obtain ⟨a, b, c, d⟩ := ybt hm hs
    refine T110_2 hh ⟨by omega, ?_⟩
    rw [if_neg (by omega)]
    refine ⟨by omega, by omega, ?_⟩
    rw [b, h1]
    exact H
  | d + 1, k, e => by
    obtain ⟨a, b, c, g⟩ := ybt (k := k) (by omega) hs
    refine T110_2 hh ⟨by omega, ?_⟩
    rw [if_neg (by omega)]
    refine ⟨by omega, by omega, ?_⟩
    rw [b, h2 k (by omega)]
    exact L110 hh hs hm h1 h2 H d (k + 1) (by omega)
theorem K110 (hh : RfH h) {s m : Nat} (hs : s < 256) (hm : m < 8) (h1 : s.testBit m = true) (h2 : ∀ k, k < m → s.testBit k = false) (H : Q (some (vi (m : Int))) (Wd S L F G h)) : C110_0 (s : Int) (Wd S L F G h) Q :=
  T110_0 hh (L110 hh hs hm h1 h2 H m 0 (by omega))
theorem L109 (hh : RfH h) : ∀ (l : List Int) (k : Nat), Dg l → l.length + k ≤ 6 → Q (some (vi ((l.length + k : Nat) : Int))) (Wd S L F G h) → C109_2 (e8 l) (k : Int) (Wd S L F G h) Q
  | [], k, _, hk, H => by
    refine T109_2 hh ⟨by simp at hk; omega, ?_⟩
    simp at hk H
    split
    · exact H
    · refine ⟨by decide, ?_⟩
      rw [if_pos (by decide)]
      exact H
  | d :: l, k, hd, hk, H => by
    have hb := e8_b hd (by omega)
    have h1 := (e8_bd hd.tl).1
    have h2 := hd.hd
    have he : e8 (d :: l) = e8 l * 8 + d := rfl
    simp only [List.length_cons] at hk H
    refine T109_2 hh ⟨by omega, ?_⟩
    rw [if_neg (by omega)]
    refine ⟨by omega, ?_⟩
    rw [if_neg (by omega)]
    refine ⟨by omega, ?_⟩
    have e2 : e8 (d :: l) / 8 = e8 l := by omega
    rw [e2]
    exact L109 hh l (k + 1) hd.tl (by omega) (by rw [show l.length + (k + 1) = l.length + 1 + k by omega]; exact H)
theorem K109 (hh : RfH h) {l : List Int} (hd : Dg l) (hl : l.length ≤ 6) (H : Q (some (vi (l.length : Int))) (Wd S L F G h)) : C109_0 (e8 l) (Wd S L F G h) Q :=
  T109_0 hh (L109 hh l 0 hd (by omega) H)
theorem L41 (hh : RfH h) {r : Row} (t : Ytk F 1 r) (v : Yvd r) {j : Nat} (hj : j < 8) (H : Q (some (vi (e8 (wlk r j)))) (Wd S L F G h)) : ∀ (m k : Nat), k + m = (r (71 + 8 * j)).toNat → C41_4 (j : Int) (e8 (ylk (fun k => r (22 + (r (72 + 8 * j + k)).toNat)) k)) (k : Int) (Wd S L F G h) Q
  | 0, k, e => by
    have hs := v.sz j hj
    have hz : F 9 ((j : Nat) : Int).toNat = r (71 + 8 * j) := t.sz1 j hj
    refine T41_4 hh ⟨by omega, by omega, by omega, ?_⟩
    rw [if_pos (by omega)]
    have : k = (r (71 + 8 * j)).toNat := by omega
    subst this; exact H
  | m + 1, k, e => by
    have hs := v.sz j hj
    have hz : F 9 ((j : Nat) : Int).toNat = r (71 + 8 * j) := t.sz1 j hj
    have hlt : F (11 + ((j : Nat) : Int).toNat) ((k : Nat) : Int).toNat = r (72 + 8 * j + k) := t.lt1 j hj k (by omega) (by omega)
    have hb := v.lt j hj k (by omega)
    have hsh : F 4 (r (72 + 8 * j + k)).toNat = r (22 + (r (72 + 8 * j + k)).toNat) := t.sh1 _ (by omega)
    have hd := v.sh (r (72 + 8 * j + k)).toNat (by omega)
    have hdg : Dg (ylk (fun k => r (22 + (r (72 + 8 * j + k)).toNat)) k) := ylk_dg (fun i hi => by
      have := v.lt j hj i (by omega)
      exact v.sh _ (by omega))
    have hln := ylk_len (fun k => r (22 + (r (72 + 8 * j + k)).toNat)) k
    have hb8 := e8_b hdg (by omega)
    refine T41_4 hh ⟨by omega, by omega, by omega, ?_⟩
    rw [if_neg (by omega), hlt, hsh]
    refine ⟨by omega, by omega, by omega, ?_⟩
    exact e8_step hdg (by omega) hd (C := fun x => C41_4 (j : Int) x ((k : Int) + 1) (Wd S L F G h) Q) (L41 hh t v hj H m (k + 1) (by omega))
theorem K41 (hh : RfH h) {r : Row} (t : Ytk F 1 r) (v : Yvd r) {j : Nat} (hj : j < 8) (H : Q (some (vi (e8 (wlk r j)))) (Wd S L F G h)) : C41_0 (j : Int) (Wd S L F G h) Q :=
  T41_0 hh (L41 hh t v hj H (r (71 + 8 * j)).toNat 0 (by omega))
def yhas (r : Row) (l : List Int) : Nat → Bool := fun k => decide (wlk r k = l)
def ywn (r : Row) : Nat := (r 1).toNat
theorem L42 (hh : RfH h) {r : Row} (t : Ytk F 1 r) (v : Yvd r) {l : List Int} (hd : Dg l) (hl : l.length ≤ 6) (H : Q (some (vi ((yset (yhas r l) (ywn r) : Nat) : Int))) (Wd S L F G h)) : ∀ (m k : Nat), k + m = ywn r → C42_4 (e8 l) ((yset (yhas r l) k : Nat) : Int) (k : Int) (Wd S L F G h) Q
  | 0, k, e => by
    have hw := v.w
    have ew : F 1 13 = r 1 := t.w1
    unfold ywn at e
    refine T42_4 hh ⟨by omega, by omega, ?_⟩
    rw [if_pos (by omega)]
    have : k = ywn r := by unfold ywn; omega
    subst this; exact H
  | m + 1, k, e => by
    have hw := v.w
    have ew : F 1 13 = r 1 := t.w1
    have e' := e
    unfold ywn at e'
    have hlt := yset_lt (yhas r l) k
    have hdk := wlk_dg v (j := k) (by omega)
    have hb1 := e8_b hdk (wlk_len v (by omega))
    have hb2 := e8_b hd hl
    refine T42_4 hh ⟨by omega, by omega, ?_⟩
    rw [if_neg (by omega)]
    refine K41 hh t v (by omega) ⟨_, rfl, rfl, by omega, by omega, ?_⟩
    have ih := L42 hh t v hd hl H m (k + 1) (by omega)
    have es : yset (yhas r l) (k + 1) = if yhas r l k then 2 ^ k + yset (yhas r l) k else yset (yhas r l) k := rfl
    by_cases c : wlk r k = l
    · rw [if_pos (by rw [c]), yor (by omega) hlt]
      have : yhas r l k = true := by unfold yhas; exact decide_eq_true c
      rw [es, if_pos this] at ih
      exact ih
    · rw [if_neg (fun q => c (e8_inj hdk hd q))]
      have : yhas r l k = false := by unfold yhas; exact decide_eq_false c
      rw [es, this] at ih
      exact ih
theorem K42 (hh : RfH h) {r : Row} (t : Ytk F 1 r) (v : Yvd r) {l : List Int} (hd : Dg l) (hl : l.length ≤ 6) (H : Q (some (vi ((yset (yhas r l) (ywn r) : Nat) : Int))) (Wd S L F G h)) : C42_0 (e8 l) (Wd S L F G h) Q :=
  T42_0 hh (L42 hh t v hd hl H (ywn r) 0 (by omega))
/-! word -/
theorem wfst {r : Row} (v : Yvd r) {j : Nat} (hj : j < ywn r) : ∃ m, m ≤ j ∧ (yset (yhas r (wlk r j)) (ywn r)).testBit m = true ∧ (∀ k, k < m → (yset (yhas r (wlk r j)) (ywn r)).testBit k = false) ∧ wlk r m = wlk r j ∧ ∀ k, k < m → wlk r k ≠ wlk r j := by
  have hp : yhas r (wlk r j) j = true := by unfold yhas; exact decide_eq_true rfl
  obtain ⟨m, a, b, c⟩ := yfst hp
  refine ⟨m, a, by rw [yset_bit _ (by omega)]; exact b, fun k hk => by rw [yset_bit _ (by omega)]; exact c k hk, of_decide_eq_true b, fun k hk => of_decide_eq_false (c k hk)⟩
theorem ywn_le {r : Row} (v : Yvd r) : ywn r ≤ 8 := by have := v.w; unfold ywn; omega
end WORDS
