/-! how the other things are made -/
section MAKES2
variable {S L : Nat} {F G : Nat → Nat → Int} {h : Nat → Nat → Option Nat} {Q : Option V2 → W2 → Prop}
def YN0 (q : Nat) : Prop := q + 6 ≤ 297 ∧ sh q = (1, 0) ∧ sh (q + 1) = (2, 12) ∧ sh (q + 2) = (2, 12) ∧ sh (q + 3) = (2, 12) ∧ sh (q + 4) = (2, 100) ∧ sh (q + 5) = (2, 100)
def mk0 (q : Nat) (w : W2) : W2 := (uI (uI (uI (uI (uR (y_mk (uR (y_mk (uI (uI (uR (y_mk (uR (y_mk (uR (y_mk w 12) q 0 (q + 1)) 12) q 1 (q + 2)) 12) q 2 (q + 3)) q 3 0) q 4 0) 100) q 5 (q + 4)) 100) q 6 (q + 5)) q 7 0) q 8 0) q 9 0) q 10 0)
set_option maxRecDepth 100000 in
set_option maxHeartbeats 4000000 in
theorem K0 {q : Nat} (y : YN0 q) (H : Q none (mk0 q ((q + 1, S, L), F, G, h))) : wp 6 0 (0, [some (vr q)], [], ((q + 1, S, L), F, G, h)) Q := by
  obtain ⟨hN, s0, s1, s2, s3, s4, s5⟩ := y
  have n1 : q + 1 < 297 := by omega
  have n2 : q + 2 < 297 := by omega
  have n3 : q + 3 < 297 := by omega
  have n4 : q + 4 < 297 := by omega
  have n5 : q + 5 < 297 := by omega
  have l1 : q < q + 1 := by omega
  have l2 : q < q + 2 := by omega
  have l3 : q < q + 3 := by omega
  have l4 : q < q + 4 := by omega
  have l5 : q < q + 5 := by omega
  have l6 : q < q + 6 := by omega
  refine pt0 (s' := (74, [some (vr q)], [], mk0 q ((q + 1, S, L), F, G, h))) (by decide) [0, 0, 0, 0, 0, 0, 0, 0, 0, 0, 0, 0, 0, 0, 0, 0, 0, 0, 0, 0, 0, 0, 0, 0, 0, 0, 0, 0, 0, 0, 0, 0, 0, 0, 0, 0, 0, 0, 0, 0] rfl ⟨⟨⟨⟨⟨⟨⟨⟨⟨⟨⟨⟨⟨⟨⟨⟨⟨trivial, Nat.le_of_ble_eq_true rfl⟩, ⟨n1, (by decide), s1, (by decide)⟩⟩, ⟨l2, s0⟩⟩, ⟨n2, (by decide), s2, (by decide)⟩⟩, ⟨l3, s0⟩⟩, ⟨n3, (by decide), s3, (by decide)⟩⟩, ⟨l4, s0⟩⟩, ⟨l4, s0, (by decide)⟩⟩, ⟨l4, s0, (by decide)⟩⟩, ⟨n4, (by decide), s4, (by decide)⟩⟩, ⟨l5, s0⟩⟩, ⟨n5, (by decide), s5, (by decide)⟩⟩, ⟨l6, s0⟩⟩, ⟨l6, s0, (by decide)⟩⟩, ⟨l6, s0, (by decide)⟩⟩, ⟨l6, s0, (by decide)⟩⟩, ⟨l6, s0, (by decide)⟩⟩ ?_
  exact wp.fin (v := none) (by decide) am_m0 rfl ⟨rfl, rfl, rfl⟩ H
def YN8 (q : Nat) : Prop := q + 3 ≤ 297 ∧ sh q = (1, 1) ∧ sh (q + 1) = (4, 12) ∧ sh (q + 2) = (3, 12)
def mk8 (q : Nat) (w : W2) : W2 := (uR (y_mk (uR (y_mk w 12) q 0 (q + 1)) 12) q 1 (q + 2))
set_option maxRecDepth 100000 in
set_option maxHeartbeats 4000000 in
theorem K8 {q : Nat} (y : YN8 q) (H : Q none (mk8 q ((q + 1, S, L), F, G, h))) : wp 6 8 (0, [some (vr q)], [], ((q + 1, S, L), F, G, h)) Q := by
  obtain ⟨hN, s0, s1, s2⟩ := y
  have n1 : q + 1 < 297 := by omega
  have n2 : q + 2 < 297 := by omega
  have l1 : q < q + 1 := by omega
  have l2 : q < q + 2 := by omega
  have l3 : q < q + 3 := by omega
  refine pt8 (s' := (20, [some (vr q)], [], mk8 q ((q + 1, S, L), F, G, h))) (by decide) [0, 0, 0, 0, 0, 0, 0, 0, 0, 0] rfl ⟨⟨⟨⟨⟨trivial, Nat.le_of_ble_eq_true rfl⟩, ⟨n1, (by decide), s1, (by decide)⟩⟩, ⟨l2, s0⟩⟩, ⟨n2, (by decide), s2, (by decide)⟩⟩, ⟨l3, s0⟩⟩ ?_
  exact wp.fin (v := none) (by decide) am_m8 rfl ⟨rfl, rfl, rfl⟩ H
def YN18 (q : Nat) : Prop := q + 2 ≤ 297 ∧ sh q = (1, 3) ∧ sh (q + 1) = (4, 24)
def mk18 (q : Nat) (w : W2) : W2 := (uR (y_mk (uI (uI (uI w q 0 0) q 1 0) q 2 0) 24) q 3 (q + 1))
set_option maxRecDepth 100000 in
set_option maxHeartbeats 4000000 in
theorem K18 {q : Nat} (y : YN18 q) (H : Q none (mk18 q ((q + 1, S, L), F, G, h))) : wp 6 18 (0, [some (vr q)], [], ((q + 1, S, L), F, G, h)) Q := by
  obtain ⟨hN, s0, s1⟩ := y
  have n1 : q + 1 < 297 := by omega
  have l1 : q < q + 1 := by omega
  have l2 : q < q + 2 := by omega
  refine pt18 (s' := (27, [some (vr q)], [], mk18 q ((q + 1, S, L), F, G, h))) (by decide) [0, 0, 0, 0, 0, 0, 0, 0, 0, 0, 0, 0, 0, 0, 0] rfl ⟨⟨⟨⟨⟨⟨trivial, Nat.le_of_ble_eq_true rfl⟩, ⟨l1, s0, (by decide)⟩⟩, ⟨l1, s0, (by decide)⟩⟩, ⟨l1, s0, (by decide)⟩⟩, ⟨n1, (by decide), s1, (by decide)⟩⟩, ⟨l2, s0⟩⟩ ?_
  exact wp.fin (v := none) (by decide) am_m18 rfl ⟨rfl, rfl, rfl⟩ H
def YN47 (q : Nat) : Prop := q + 4 ≤ 297 ∧ sh q = (1, 5) ∧ sh (q + 1) = (2, 90) ∧ sh (q + 2) = (2, 12) ∧ sh (q + 3) = (2, 12)
def mk47 (q : Nat) (w : W2) : W2 := (uI (uI (uI (uR (y_mk (uR (y_mk (uI (uI (uI (uI (uR (y_mk w 90) q 0 (q + 1)) q 1 0) q 2 0) q 3 (-1)) q 4 0) 12) q 5 (q + 2)) 12) q 6 (q + 3)) q 7 0) q 8 0) q 9 0)
set_option maxRecDepth 100000 in
set_option maxHeartbeats 4000000 in
theorem K47 {q : Nat} (y : YN47 q) (H : Q none (mk47 q ((q + 1, S, L), F, G, h))) : wp 6 47 (0, [some (vr q)], [], ((q + 1, S, L), F, G, h)) Q := by
  obtain ⟨hN, s0, s1, s2, s3⟩ := y
  have n1 : q + 1 < 297 := by omega
  have n2 : q + 2 < 297 := by omega
  have n3 : q + 3 < 297 := by omega
  have l1 : q < q + 1 := by omega
  have l2 : q < q + 2 := by omega
  have l3 : q < q + 3 := by omega
  have l4 : q < q + 4 := by omega
  refine pt47 (s' := (63, [some (vr q)], [], mk47 q ((q + 1, S, L), F, G, h))) (by decide) [0, 0, 0, 0, 0, 0, 0, 0, 0, 0, 0, 0, 0, 0, 0, 0, 0, 0, 0, 0, 0, 0, 0, 0, 0, 0, 0, 0, 0, 0, 0, 0, 0, 0, 0] rfl ⟨⟨⟨⟨⟨⟨⟨⟨⟨⟨⟨⟨⟨⟨trivial, Nat.le_of_ble_eq_true rfl⟩, ⟨n1, (by decide), s1, (by decide)⟩⟩, ⟨l2, s0⟩⟩, ⟨l2, s0, (by decide)⟩⟩, ⟨l2, s0, (by decide)⟩⟩, ⟨l2, s0, (by decide)⟩⟩, ⟨l2, s0, (by decide)⟩⟩, ⟨n2, (by decide), s2, (by decide)⟩⟩, ⟨l3, s0⟩⟩, ⟨n3, (by decide), s3, (by decide)⟩⟩, ⟨l4, s0⟩⟩, ⟨l4, s0, (by decide)⟩⟩, ⟨l4, s0, (by decide)⟩⟩, ⟨l4, s0, (by decide)⟩⟩ ?_
  exact wp.fin (v := none) (by decide) am_m47 rfl ⟨rfl, rfl, rfl⟩ H
/-! a past -/
def YNP (q : Nat) : Prop := q + 110 ≤ 297 ∧ sh q = (1, 2) ∧ sh (q + 1) = (6, 6) ∧ ∀ i, i < 6 → YNT (q + 2 + 18 * i)
def mkP0 (q : Nat) (w : W2) : W2 := uI (uR (y_mk w 6) q 0 (q + 1)) q 1 0
def lpP (q : Nat) : Nat → Nat → W2 → W2
  | 0, _, w => w
  | m + 1, k, w => lpP q m (k + 1) (uR (mk23 (q + 2 + 18 * k) (y_mk w 15)) (q + 1) k (q + 2 + 18 * k))
def mk13 (q : Nat) (w : W2) : W2 := lpP q 6 0 (mkP0 q w)
theorem lpB_1 (q : Nat) : ∀ (m k : Nat) (w : W2), (lpB q m k w).1 = w.1 ∧ (lpB q m k w).2.2.2 = w.2.2.2
  | 0, _, _ => ⟨rfl, rfl⟩
  | m + 1, k, w => lpB_1 q m (k + 1) _
theorem mk23_1 (q : Nat) (w : W2) : (mk23 q w).1 = (w.1.1 + 17, w.1.2.1 + 136, w.1.2.2) := by
  unfold mk23
  rw [(lpB_1 q 12 0 _).1, (lpA_1 q 8 0 _).1]
  rfl
theorem mk23_h {q p k : Nat} {w : W2} (hw : w.1.1 = q + 1) (hp : p < q) : (mk23 q w).2.2.2 p k = w.2.2.2 p k := by
  unfold mk23
  rw [(lpB_1 q 12 0 _).2, (lpA_1 q 8 0 _).2]
  simp only [mkA, uI, uR, y_mk, y_mk2, upx, rowx, rowsx, hw]
  repeat rw [if_neg (by omega)]
theorem K23w {q : Nat} (y : YNT q) {w : W2} (hw : w.1.1 = q + 1) (H : Q none (mk23 q w)) : wp 6 23 (0, [some (vr q), none], [], w) Q := by
  obtain ⟨⟨p, S, L⟩, F, G, h⟩ := w
  dsimp only at hw
  subst hw
  exact K23 y H
set_option maxRecDepth 100000 in
set_option maxHeartbeats 4000000 in
theorem L13 {q : Nat} (y : YNP q) : ∀ (m k : Nat) (w : W2), k + m = 6 → w.1.1 = q + 2 + 18 * k → w.2.2.2 q 0 = some (q + 1) → Q none (lpP q m k w) → wp 7 13 (20, [some (vr q), some (vi (k : Int))], [], w) Q
  | 0, k, w, e, e1, h1, H => by
    refine pt13 (s' := (45, [some (vr q), some (vi (k : Int))], [], w)) (by decide) [0, 0, 1] rfl ⟨trivial, ⟨⟨⟨by omega, by omega⟩, by decide⟩, (by omega : (6 : Int) ≤ (k : Int))⟩⟩ ?_
    exact wp.fin (v := none) (by decide) am_m13 rfl ⟨rfl, rfl, rfl⟩ H
  | m + 1, k, w, e, e1, h1, H => by
    obtain ⟨hN, s0, s1, s2⟩ := y
    have yk := s2 k (by omega)
    have p0 : q < w.1.1 := by omega
    have pn : w.1.1 < 297 := by omega
    have sn : sh w.1.1 = (1, 4) := by rw [e1]; exact yk.2.1
    have ew : y_mk w 15 = ((w.1.1 + 1, w.1.2.1 + 15, w.1.2.2), am_row w.2.1 w.1.1 (fun _ => 0), am_row w.2.2.1 w.1.1 (fun _ => 0), am_row w.2.2.2 w.1.1 (fun _ => none)) := rfl
    refine pt13 (s' := (35, [some (vr q), some (vi (k : Int))], [vr w.1.1, vr w.1.1, vi (k : Int), vr (q + 1)], y_mk w 15)) (by decide) [0, 0, 0, 0, q + 1, 0, 0, 0] rfl ⟨⟨⟨trivial, ⟨⟨⟨by omega, by omega⟩, by decide⟩, (by omega : ¬ (6 : Int) ≤ (k : Int))⟩⟩, ⟨p0, s0, h1⟩⟩, ⟨pn, sn⟩⟩ ?_
    refine wp.cl am_m13 rfl am_m23 6 [vr w.1.1] [vr w.1.1, vi (k : Int), vr (q + 1)] rfl (Nat.le_of_ble_eq_true rfl) ⟨Nat.le_of_ble_eq_true rfl, Nat.le_of_ble_eq_true rfl⟩ rfl (Nat.le_of_ble_eq_true rfl) rfl (Nat.le_of_ble_eq_true rfl) (Nat.le_of_ble_eq_true rfl) ⟨_, _, rfl⟩ ?_
    rw [e1]
    refine K23w yk (by rw [ew]; dsimp only; omega) ?_
    have h1' := mk23_1 (q + 2 + 18 * k) (y_mk w 15)
    have ex : (mk23 (q + 2 + 18 * k) (y_mk w 15)).1.1 = q + 2 + 18 * k + 18 := by rw [h1', ew]; dsimp only; omega
    have hh : (mk23 (q + 2 + 18 * k) (y_mk w 15)).2.2.2 q 0 = some (q + 1) := by
      rw [mk23_h (by rw [ew]; dsimp only; omega) (by omega), ew]
      dsimp only
      rw [rowx, if_neg (by omega)]
      exact h1
    generalize hw2 : mk23 (q + 2 + 18 * k) (y_mk w 15) = w2 at ex hh
    have b1 : q + 1 < w2.1.1 := by omega
    have b2 : q + 2 + 18 * k < w2.1.1 := by omega
    have b3 : ((sh (q + 1)).1 = 6 ∧ sh (q + 2 + 18 * k) = (1, 4)) ∨ ((sh (q + 1)).1 = 7 ∧ sh (q + 2 + 18 * k) = (1, 3)) := Or.inl ⟨by rw [s1], yk.2.1⟩
    have b4 : 0 ≤ (k : Int) ∧ (k : Int) < (sh (q + 1)).2 := by rw [s1]; exact ⟨by omega, by show (k : Int) < 6; omega⟩
    refine pt13 (s' := (20, [some (vr q), some (vi ((k : Int) + 1))], [], uR w2 (q + 1) k (q + 2 + 18 * k))) (by decide) [0, 0, 0] rfl ⟨trivial, ⟨b1, b2, b3, b4⟩⟩ ?_
    refine L13 ⟨hN, s0, s1, s2⟩ m (k + 1) _ (by omega) (by show w2.1.1 = _; omega) ?_ (by rw [← hw2]; exact H)
    show am_up w2.2.2.2 (q + 1) k (some (q + 2 + 18 * k)) q 0 = _
    rw [upx, if_neg (by omega)]
    exact hh
set_option maxRecDepth 100000 in
set_option maxHeartbeats 4000000 in
theorem K13 {q : Nat} (y : YNP q) (H : Q none (mk13 q ((q + 1, S, L), F, G, h))) : wp 7 13 (0, [some (vr q), none], [], ((q + 1, S, L), F, G, h)) Q := by
  have y0 := y
  obtain ⟨hN, s0, s1, s2⟩ := y
  have n1 : q + 1 < 297 := by omega
  have l2 : q < q + 2 := by omega
  refine pt13 (s' := (20, [some (vr q), some (vi 0)], [], mkP0 q ((q + 1, S, L), F, G, h))) (by decide) [0, 0, 0, 0, 0, 0, 0, 0, 0, 0, 0] rfl ⟨⟨⟨⟨trivial, Nat.le_of_ble_eq_true rfl⟩, ⟨n1, (by decide), s1, (by decide)⟩⟩, ⟨l2, s0⟩⟩, ⟨l2, s0, (by decide)⟩⟩ ?_
  refine L13 y0 6 0 _ (by omega) rfl ?_ H
  simp [mkP0, uI, uR, y_mk, upx, rowx]
end MAKES2
