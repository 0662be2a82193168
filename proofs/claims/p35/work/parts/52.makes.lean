/-! how a talk is made -/
def uI (w : W2) (p k : Nat) (x : Int) : W2 := (w.1, am_up w.2.1 p k x, w.2.2)
def uR (w : W2) (p k q : Nat) : W2 := (w.1, w.2.1, w.2.2.1, am_up w.2.2.2 p k (some q))
def lpA (q : Nat) : Nat → Nat → W2 → W2
  | 0, _, w => w
  | m + 1, k, w => lpA q m (k + 1) (uI (uI w (q + 1) k (k : Int)) (q + 2) k (12 - (k : Int)))
def lpB (q : Nat) : Nat → Nat → W2 → W2
  | 0, _, w => w
  | m + 1, k, w => lpB q m (k + 1) (uI (uI w (q + 3) k ((k : Int) % 8)) (q + 4) k 1)
theorem lpA_1 (q : Nat) : ∀ (m k : Nat) (w : W2), (lpA q m k w).1 = w.1 ∧ (lpA q m k w).2.2.2 = w.2.2.2
  | 0, _, _ => ⟨rfl, rfl⟩
  | m + 1, k, w => lpA_1 q m (k + 1) _
def YNT (q : Nat) : Prop := q + 18 ≤ 297 ∧ sh q = (1, 4) ∧ sh (q + 1) = (2, 8) ∧ sh (q + 2) = (2, 8) ∧ sh (q + 3) = (2, 12) ∧ sh (q + 4) = (2, 12) ∧ sh (q + 5) = (2, 12) ∧ sh (q + 6) = (2, 12) ∧ sh (q + 7) = (2, 8) ∧ sh (q + 8) = (2, 8) ∧ sh (q + 9) = (5, 8) ∧ ∀ i, i < 8 → sh (q + 9 + 1 + i) = (2, 6)
def mkA (q : Nat) (w : W2) : W2 := (uI (uI (uR (y_mk2 (uR (y_mk (uR (y_mk (uI (uI (uI (uI (uR (y_mk (uR (y_mk (uR (y_mk (uR (y_mk (uR (y_mk (uR (y_mk w 8) q 0 (q + 1)) 8) q 1 (q + 2)) 12) q 2 (q + 3)) 12) q 3 (q + 4)) 12) q 4 (q + 5)) 12) q 5 (q + 6)) q 6 0) q 7 4) q 8 1) q 9 1) 8) q 10 (q + 7)) 8) q 11 (q + 8))) q 12 (q + 9)) q 13 0) q 14 1)
def mk23 (q : Nat) (w : W2) : W2 := lpB q 12 0 (lpA q 8 0 (mkA q w))
theorem rowx {α : Type} {f : Nat → Nat → α} {p a b : Nat} {g : Nat → α} : am_row f p g a b = if a = p then g b else f a b := by
  by_cases c : a = p
  · rw [c, am_row_self, if_pos rfl]
  · rw [am_row_ne c, if_neg c]
theorem rowsx {α : Type} {f : Nat → Nat → α} {p n a b : Nat} {g : Nat → α} : am_rows f p n g a b = if p ≤ a ∧ a < p + n then g b else f a b := by
  by_cases c : p ≤ a ∧ a < p + n
  · rw [am_rows_in c, if_pos c]
  · rw [am_rows_ne (by omega), if_neg c]
theorem upx {α : Type} {f : Nat → Nat → α} {p k a b : Nat} {x : α} : am_up f p k x a b = if a = p ∧ b = k then x else f a b := by
  unfold am_up
  by_cases c : a = p
  · subst c
    rw [if_pos rfl]
    by_cases d : b = k
    · rw [if_pos d, if_pos ⟨rfl, d⟩]
    · rw [if_neg d, if_neg (fun q => d q.2)]
  · rw [if_neg c, if_neg (fun q => c q.1)]
section MAKES
variable {S L : Nat} {F G : Nat → Nat → Int} {h : Nat → Nat → Option Nat} {Q : Option V2 → W2 → Prop}
set_option maxRecDepth 100000 in
set_option maxHeartbeats 4000000 in
theorem L23b {q : Nat} (y : YNT q) : ∀ (m k : Nat) (w : W2), k + m = 12 → w.1.1 = q + 18 → w.2.2.2 q 2 = some (q + 3) → w.2.2.2 q 3 = some (q + 4) → Q none (lpB q m k w) → wp 6 23 (143, [some (vr q), some (vi (k : Int))], [], w) Q
  | 0, k, w, e, e1, h1, h2, H => by
    obtain ⟨hN, s0, s1, s2, s3, s4, s5, s6, s7, s8, s9, s10⟩ := y
    refine pt23 (s' := (172, [some (vr q), some (vi (k : Int))], [], w)) (by decide) [0, 0, 1] rfl ⟨trivial, ⟨⟨⟨by omega, by omega⟩, by decide⟩, (by omega : (12 : Int) ≤ (k : Int))⟩⟩ ?_
    exact wp.fin (v := none) (by decide) am_m23 rfl ⟨rfl, rfl, rfl⟩ H
  | m + 1, k, w, e, e1, h1, h2, H => by
    have y0 := y
    obtain ⟨hN, s0, s1, s2, s3, s4, s5, s6, s7, s8, s9, s10⟩ := y
    have b3 : (sh (q + 3)).1 = 2 ∧ 0 ≤ (k : Int) ∧ (k : Int) < (sh (q + 3)).2 := by rw [s3]; exact ⟨rfl, by omega, by show (k : Int) < 12; omega⟩
    have b4 : (sh (q + 4)).1 = 2 ∧ 0 ≤ (k : Int) ∧ (k : Int) < (sh (q + 4)).2 := by rw [s4]; exact ⟨rfl, by omega, by show (k : Int) < 12; omega⟩
    have p0 : q < w.1.1 := by omega
    have p3 : q + 3 < w.1.1 := by omega
    have p4 : q + 4 < w.1.1 := by omega
    refine pt23 (s' := (143, [some (vr q), some (vi ((k : Int) + 1))], [], uI (uI w (q + 3) k ((k : Int) % 8)) (q + 4) k 1)) (by decide) [0, 0, 0, 0, q + 3, 0, 0, 0, 0, 0, 0, q + 4, 0, 0, 0, 0, 0] rfl ⟨⟨⟨⟨⟨⟨trivial, ⟨⟨⟨by omega, by omega⟩, by decide⟩, (by omega : ¬ (12 : Int) ≤ (k : Int))⟩⟩, ⟨p0, s0, h1⟩⟩, ⟨by omega, by omega, by decide, by decide⟩⟩, ⟨p3, b3⟩⟩, ⟨p0, s0, h2⟩⟩, ⟨p4, b4⟩⟩ ?_
    exact L23b y0 m (k + 1) _ (by omega) e1 h1 h2 H
set_option maxRecDepth 100000 in
set_option maxHeartbeats 4000000 in
theorem L23a {q : Nat} (y : YNT q) : ∀ (m k : Nat) (w : W2), k + m = 8 → w.1.1 = q + 18 → w.2.2.2 q 0 = some (q + 1) → w.2.2.2 q 1 = some (q + 2) → w.2.2.2 q 2 = some (q + 3) → w.2.2.2 q 3 = some (q + 4) → Q none (lpB q 12 0 (lpA q m k w)) → wp 6 23 (112, [some (vr q), some (vi (k : Int))], [], w) Q
  | 0, k, w, e, e1, h1, h2, h3, h4, H => by
    refine pt23 (s' := (143, [some (vr q), some (vi 0)], [], w)) (by decide) [0, 0, 1, 0, 0] rfl ⟨trivial, ⟨⟨⟨by omega, by omega⟩, by decide⟩, (by omega : (8 : Int) ≤ (k : Int))⟩⟩ ?_
    exact L23b y 12 0 w (by omega) e1 h3 h4 H
  | m + 1, k, w, e, e1, h1, h2, h3, h4, H => by
    have y0 := y
    obtain ⟨hN, s0, s1, s2, s3, s4, s5, s6, s7, s8, s9, s10⟩ := y
    have b1 : (sh (q + 1)).1 = 2 ∧ 0 ≤ (k : Int) ∧ (k : Int) < (sh (q + 1)).2 := by rw [s1]; exact ⟨rfl, by omega, by show (k : Int) < 8; omega⟩
    have b2 : (sh (q + 2)).1 = 2 ∧ 0 ≤ (k : Int) ∧ (k : Int) < (sh (q + 2)).2 := by rw [s2]; exact ⟨rfl, by omega, by show (k : Int) < 8; omega⟩
    have p0 : q < w.1.1 := by omega
    have p1 : q + 1 < w.1.1 := by omega
    have p2 : q + 2 < w.1.1 := by omega
    refine pt23 (s' := (112, [some (vr q), some (vi ((k : Int) + 1))], [], uI (uI w (q + 1) k (k : Int)) (q + 2) k (12 - (k : Int)))) (by decide) [0, 0, 0, 0, q + 1, 0, 0, 0, 0, q + 2, 0, 0, 0, 0, 0, 0, 0] rfl ⟨⟨⟨⟨⟨trivial, ⟨⟨⟨by omega, by omega⟩, by decide⟩, (by omega : ¬ (8 : Int) ≤ (k : Int))⟩⟩, ⟨p0, s0, h1⟩⟩, ⟨p1, b1⟩⟩, ⟨p0, s0, h2⟩⟩, ⟨p2, b2⟩⟩ ?_
    exact L23a y0 m (k + 1) _ (by omega) e1 h1 h2 h3 h4 H
set_option maxRecDepth 100000 in
set_option maxHeartbeats 4000000 in
theorem K23 {q : Nat} (y : YNT q) (H : Q none (mk23 q ((q + 1, S, L), F, G, h))) : wp 6 23 (0, [some (vr q), none], [], ((q + 1, S, L), F, G, h)) Q := by
  have y0 := y
  obtain ⟨hN, s0, s1, s2, s3, s4, s5, s6, s7, s8, s9, s10⟩ := y
  have n1 : q + 1 < 297 := by omega
  have n2 : q + 2 < 297 := by omega
  have n3 : q + 3 < 297 := by omega
  have n4 : q + 4 < 297 := by omega
  have n5 : q + 5 < 297 := by omega
  have n6 : q + 6 < 297 := by omega
  have n7 : q + 7 < 297 := by omega
  have n8 : q + 8 < 297 := by omega
  have n9 : q + 9 < 297 := by omega
  have l1 : q < q + 1 := by omega
  have l2 : q < q + 2 := by omega
  have l3 : q < q + 3 := by omega
  have l4 : q < q + 4 := by omega
  have l5 : q < q + 5 := by omega
  have l6 : q < q + 6 := by omega
  have l7 : q < q + 7 := by omega
  have l8 : q < q + 8 := by omega
  have l9 : q < q + 9 := by omega
  have l10 : q < q + 10 := by omega
  have l11 : q < q + 11 := by omega
  have l12 : q < q + 12 := by omega
  have l13 : q < q + 13 := by omega
  have l14 : q < q + 14 := by omega
  have l15 : q < q + 15 := by omega
  have l16 : q < q + 16 := by omega
  have l17 : q < q + 17 := by omega
  have l18 : q < q + 18 := by omega
  refine pt23 (s' := (112, [some (vr q), some (vi 0)], [], mkA q ((q + 1, S, L), F, G, h))) (by decide) [0, 0, 0, 0, 0, 0, 0, 0, 0, 0, 0, 0, 0, 0, 0, 0, 0, 0, 0, 0, 0, 0, 0, 0, 0, 0, 0, 0, 0, 0, 0, 0, 0, 0, 0, 0, 0, 0, 0, 0, 0, 0, 0, 0, 0, 0, 0, 0, 0, 0, 0, 0, 0, 0, 0, 0, 0, 0, 0] rfl ⟨⟨⟨⟨⟨⟨⟨⟨⟨⟨⟨⟨⟨⟨⟨⟨⟨⟨⟨⟨⟨⟨⟨⟨⟨trivial, Nat.le_of_ble_eq_true rfl⟩, ⟨n1, (by decide), s1, (by decide)⟩⟩, ⟨l2, s0⟩⟩, ⟨n2, (by decide), s2, (by decide)⟩⟩, ⟨l3, s0⟩⟩, ⟨n3, (by decide), s3, (by decide)⟩⟩, ⟨l4, s0⟩⟩, ⟨n4, (by decide), s4, (by decide)⟩⟩, ⟨l5, s0⟩⟩, ⟨n5, (by decide), s5, (by decide)⟩⟩, ⟨l6, s0⟩⟩, ⟨n6, (by decide), s6, (by decide)⟩⟩, ⟨l7, s0⟩⟩, ⟨l7, s0, (by decide)⟩⟩, ⟨l7, s0, (by decide)⟩⟩, ⟨l7, s0, (by decide)⟩⟩, ⟨l7, s0, (by decide)⟩⟩, ⟨n7, (by decide), s7, (by decide)⟩⟩, ⟨l8, s0⟩⟩, ⟨n8, (by decide), s8, (by decide)⟩⟩, ⟨l9, s0⟩⟩, ⟨hN, rfl, rfl, s9, s10⟩⟩, ⟨l18, s0⟩⟩, ⟨l18, s0, (by decide)⟩⟩, ⟨l18, s0, (by decide)⟩⟩ ?_
  refine L23a y0 8 0 _ (by omega) rfl ?_ ?_ ?_ ?_ H
  · simp [mkA, uI, uR, y_mk, y_mk2, upx, rowx, rowsx]
    repeat rw [if_neg (by omega)]
  · simp [mkA, uI, uR, y_mk, y_mk2, upx, rowx, rowsx]
    repeat rw [if_neg (by omega)]
  · simp [mkA, uI, uR, y_mk, y_mk2, upx, rowx, rowsx]
    repeat rw [if_neg (by omega)]
  · simp [mkA, uI, uR, y_mk, y_mk2, upx, rowx, rowsx]
    repeat rw [if_neg (by omega)]
end MAKES
