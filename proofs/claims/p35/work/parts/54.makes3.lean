/-! how the reference and the component are made -/
section MAKES3
variable {S L : Nat} {F G : Nat → Nat → Int} {h : Nat → Nat → Option Nat} {Q : Option V2 → W2 → Prop}
theorem lpP_1 (q : Nat) : ∀ (m k : Nat) (w : W2), (lpP q m k w).1.1 = w.1.1 + 18 * m
  | 0, _, _ => rfl
  | m + 1, k, w => by
    show (lpP q m (k + 1) (uR (mk23 (q + 2 + 18 * k) (y_mk w 15)) (q + 1) k (q + 2 + 18 * k))).1.1 = _
    rw [lpP_1 q m (k + 1) _]
    have h := mk23_1 (q + 2 + 18 * k) (y_mk w 15)
    have h2 : (uR (mk23 (q + 2 + 18 * k) (y_mk w 15)) (q + 1) k (q + 2 + 18 * k)).1.1 = (y_mk w 15).1.1 + 17 := by
      show (mk23 (q + 2 + 18 * k) (y_mk w 15)).1.1 = _
      rw [h]
    have h3 : (y_mk w 15).1.1 = w.1.1 + 1 := rfl
    omega
def lpS : Nat → Nat → W2 → W2
  | 0, _, w => w
  | m + 1, k, w => lpS m (k + 1) (uR (mk18 (289 + 2 * k) (y_mk w 4)) 288 k (289 + 2 * k))
def mk65 (w : W2) : W2 := lpS 4 0 (uR (y_mk (uR (mk47 284 (y_mk (uR (mk8 281 (y_mk (uR (mk0 275 (y_mk (uI (uR (mk13 165 (y_mk (uR (mk23 147 (y_mk (uR (mk13 37 (y_mk (uR (mk23 19 (y_mk (uR (mk23 1 (y_mk w 15)) 0 0 1) 15)) 0 1 19) 2)) 0 2 37) 15)) 0 3 147) 2)) 0 4 165) 0 5 0) 11)) 0 6 275) 2)) 0 7 281) 10)) 0 8 284) 4) 0 9 288)
theorem mk0_1 (q : Nat) (w : W2) : (mk0 q w).1.1 = w.1.1 + 5 := rfl
theorem K0w {q : Nat} (y : YN0 q) {w : W2} (hw : w.1.1 = q + 1) (H : Q none (mk0 q w)) : wp 6 0 (0, [some (vr q)], [], w) Q := by
  obtain ⟨⟨p, S, L⟩, F, G, h⟩ := w
  dsimp only at hw
  subst hw
  exact K0 y H
theorem mk8_1 (q : Nat) (w : W2) : (mk8 q w).1.1 = w.1.1 + 2 := rfl
theorem K8w {q : Nat} (y : YN8 q) {w : W2} (hw : w.1.1 = q + 1) (H : Q none (mk8 q w)) : wp 6 8 (0, [some (vr q)], [], w) Q := by
  obtain ⟨⟨p, S, L⟩, F, G, h⟩ := w
  dsimp only at hw
  subst hw
  exact K8 y H
theorem mk47_1 (q : Nat) (w : W2) : (mk47 q w).1.1 = w.1.1 + 3 := rfl
theorem K47w {q : Nat} (y : YN47 q) {w : W2} (hw : w.1.1 = q + 1) (H : Q none (mk47 q w)) : wp 6 47 (0, [some (vr q)], [], w) Q := by
  obtain ⟨⟨p, S, L⟩, F, G, h⟩ := w
  dsimp only at hw
  subst hw
  exact K47 y H
theorem mk18_1 (q : Nat) (w : W2) : (mk18 q w).1.1 = w.1.1 + 1 := rfl
theorem K18w {q : Nat} (y : YN18 q) {w : W2} (hw : w.1.1 = q + 1) (H : Q none (mk18 q w)) : wp 6 18 (0, [some (vr q)], [], w) Q := by
  obtain ⟨⟨p, S, L⟩, F, G, h⟩ := w
  dsimp only at hw
  subst hw
  exact K18 y H
theorem mk13_1 (q : Nat) (w : W2) : (mk13 q w).1.1 = w.1.1 + 109 := by
  unfold mk13
  rw [lpP_1]
  rfl
theorem K13w {q : Nat} (y : YNP q) {w : W2} (hw : w.1.1 = q + 1) (H : Q none (mk13 q w)) : wp 7 13 (0, [some (vr q), none], [], w) Q := by
  obtain ⟨⟨p, S, L⟩, F, G, h⟩ := w
  dsimp only at hw
  subst hw
  exact K13 y H
theorem yt_all : YNT 1 ∧ YNT 19 ∧ YNT 147 ∧ YNP 37 ∧ YNP 165 ∧ YN0 275 ∧ YN8 281 ∧ YN47 284 ∧ (∀ k, k < 4 → YN18 (289 + 2 * k)) := by
  refine ⟨by unfold YNT; decide, by unfold YNT; decide, by unfold YNT; decide, ⟨by decide, by decide, by decide, ?_⟩, ⟨by decide, by decide, by decide, ?_⟩, by unfold YN0; decide, by unfold YN8; decide, by unfold YN47; decide, by unfold YN18; decide⟩
  · unfold YNT; decide
  · unfold YNT; decide
theorem mk23_1' (q : Nat) (w : W2) : (mk23 q w).1.1 = w.1.1 + 17 := by rw [mk23_1]
theorem mk18_h {q p k : Nat} {w : W2} (hw : w.1.1 = q + 1) (hp : p < q) : (mk18 q w).2.2.2 p k = w.2.2.2 p k := by
  simp only [mk18, uI, uR, y_mk, upx, rowx, rowsx, hw]
  repeat rw [if_neg (by omega)]
set_option maxRecDepth 100000 in
set_option maxHeartbeats 4000000 in
theorem L65 : ∀ (m k : Nat) (w : W2), k + m = 4 → w.1.1 = 289 + 2 * k → w.2.2.2 0 9 = some 288 → Q none (lpS m k w) → wp 8 65 (107, [some (vr 0), some (vi (k : Int))], [], w) Q
  | 0, k, w, e, e1, h1, H => by
    refine pt65 (s' := (131, [some (vr 0), some (vi (k : Int))], [], w)) (by decide) [0, 0, 1] rfl ⟨trivial, ⟨⟨⟨by omega, by omega⟩, by decide⟩, (by omega : (4 : Int) ≤ (k : Int))⟩⟩ ?_
    exact wp.fin (v := none) (by decide) am_m65 rfl ⟨rfl, rfl, rfl⟩ H
  | m + 1, k, w, e, e1, h1, H => by
    have yk := yt_all.2.2.2.2.2.2.2.2 k (by omega)
    have s288 : sh 288 = (7, 4) := by decide
    have p0 : 0 < w.1.1 := by omega
    have pn : w.1.1 < 297 := by omega
    have sn : sh w.1.1 = (1, 3) := by rw [e1]; exact yk.2.1
    have ew : y_mk w 4 = ((w.1.1 + 1, w.1.2.1 + 4, w.1.2.2), am_row w.2.1 w.1.1 (fun _ => 0), am_row w.2.2.1 w.1.1 (fun _ => 0), am_row w.2.2.2 w.1.1 (fun _ => none)) := rfl
    refine pt65 (s' := (121, [some (vr 0), some (vi (k : Int))], [vr w.1.1, vr w.1.1, vi (k : Int), vr 288], y_mk w 4)) (by decide) [0, 0, 0, 0, 288, 0, 0, 0] rfl ⟨⟨⟨trivial, ⟨⟨⟨by omega, by omega⟩, by decide⟩, (by omega : ¬ (4 : Int) ≤ (k : Int))⟩⟩, ⟨p0, (by decide), h1⟩⟩, ⟨pn, sn⟩⟩ ?_
    refine wp.cl am_m65 rfl am_m18 6 [vr w.1.1] [vr w.1.1, vi (k : Int), vr 288] rfl (Nat.le_of_ble_eq_true rfl) ⟨Nat.le_of_ble_eq_true rfl, Nat.le_of_ble_eq_true rfl⟩ rfl (Nat.le_of_ble_eq_true rfl) rfl (Nat.le_of_ble_eq_true rfl) (Nat.le_of_ble_eq_true rfl) ⟨_, _, rfl⟩ ?_
    rw [e1]
    refine K18w yk (by rw [ew]; dsimp only; omega) ?_
    have ex : (mk18 (289 + 2 * k) (y_mk w 4)).1.1 = 289 + 2 * k + 2 := by rw [mk18_1, ew]; dsimp only; omega
    have hh : (mk18 (289 + 2 * k) (y_mk w 4)).2.2.2 0 9 = some 288 := by
      rw [mk18_h (by rw [ew]; dsimp only; omega) (by omega), ew]
      dsimp only
      rw [rowx, if_neg (by omega)]
      exact h1
    generalize hw2 : mk18 (289 + 2 * k) (y_mk w 4) = w2 at ex hh
    have b1 : 288 < w2.1.1 := by omega
    have b2 : 289 + 2 * k < w2.1.1 := by omega
    have b3 : ((sh 288).1 = 6 ∧ sh (289 + 2 * k) = (1, 4)) ∨ ((sh 288).1 = 7 ∧ sh (289 + 2 * k) = (1, 3)) := Or.inr ⟨by rw [s288], yk.2.1⟩
    have b4 : 0 ≤ (k : Int) ∧ (k : Int) < (sh 288).2 := by rw [s288]; exact ⟨by omega, by show (k : Int) < 4; omega⟩
    refine pt65 (s' := (107, [some (vr 0), some (vi ((k : Int) + 1))], [], uR w2 288 k (289 + 2 * k))) (by decide) [0, 0, 0] rfl ⟨trivial, ⟨b1, b2, b3, b4⟩⟩ ?_
    refine L65 m (k + 1) _ (by omega) (by show w2.1.1 = _; omega) ?_ (by rw [← hw2]; exact H)
    show am_up w2.2.2.2 288 k (some (289 + 2 * k)) 0 9 = _
    rw [upx, if_neg (by omega)]
    exact hh
set_option maxRecDepth 100000 in
set_option maxHeartbeats 4000000 in
theorem K65 {w : W2} (hw : w.1.1 = 1) (H : Q none (mk65 w)) : wp 8 65 (0, [some (vr 0), none], [], w) Q := by
  have Y := yt_all
  unfold mk65 at H
  refine pt65 (s' := (9, [some (vr 0), none], [vr w.1.1, vr w.1.1, vr 0], y_mk w 15)) (by decide) [0, 0, 0, 0, 0] rfl ⟨⟨trivial, Nat.le_of_ble_eq_true rfl⟩, ⟨(by omega : w.1.1 < 297), (by rw [hw]; decide : sh w.1.1 = (1, 4))⟩⟩ ?_
  refine wp.cl am_m65 rfl am_m23 6 [vr w.1.1] [vr w.1.1, vr 0] rfl (Nat.le_of_ble_eq_true rfl) ⟨Nat.le_of_ble_eq_true rfl, Nat.le_of_ble_eq_true rfl⟩ rfl (Nat.le_of_ble_eq_true rfl) rfl (Nat.le_of_ble_eq_true rfl) (Nat.le_of_ble_eq_true rfl) ⟨_, _, rfl⟩ ?_
  rw [hw]
  refine K23w Y.1 (by show w.1.1 + 1 = _; omega) ?_
  have ex0 : (mk23 1 (y_mk w 15)).1.1 = 19 := by rw [mk23_1']; show w.1.1 + 1 + _ = _; omega
  generalize mk23 1 (y_mk w 15) = v0 at ex0 H ⊢
  refine pt65 (s' := (15, [some (vr 0), none], [], uR v0 0 0 1)) (by decide) [0] rfl ⟨trivial, ⟨(by omega : 0 < v0.1.1), (by decide)⟩⟩ ?_
  generalize hu0 : uR v0 0 0 1 = u0 at H ⊢
  have e0 : u0.1.1 = 19 := by rw [← hu0]; exact ex0
  refine pt65 (s' := (20, [some (vr 0), none], [vr u0.1.1, vr u0.1.1, vr 0], y_mk u0 15)) (by decide) [0, 0, 0] rfl ⟨trivial, ⟨(by omega : u0.1.1 < 297), (by rw [e0]; decide : sh u0.1.1 = (1, 4))⟩⟩ ?_
  refine wp.cl am_m65 rfl am_m23 6 [vr u0.1.1] [vr u0.1.1, vr 0] rfl (Nat.le_of_ble_eq_true rfl) ⟨Nat.le_of_ble_eq_true rfl, Nat.le_of_ble_eq_true rfl⟩ rfl (Nat.le_of_ble_eq_true rfl) rfl (Nat.le_of_ble_eq_true rfl) (Nat.le_of_ble_eq_true rfl) ⟨_, _, rfl⟩ ?_
  rw [e0]
  refine K23w Y.2.1 (by show u0.1.1 + 1 = _; omega) ?_
  have ex1 : (mk23 19 (y_mk u0 15)).1.1 = 37 := by rw [mk23_1']; show u0.1.1 + 1 + _ = _; omega
  generalize mk23 19 (y_mk u0 15) = v1 at ex1 H ⊢
  refine pt65 (s' := (26, [some (vr 0), none], [], uR v1 0 1 19)) (by decide) [0] rfl ⟨trivial, ⟨(by omega : 0 < v1.1.1), (by decide)⟩⟩ ?_
  generalize hu1 : uR v1 0 1 19 = u1 at H ⊢
  have e1 : u1.1.1 = 37 := by rw [← hu1]; exact ex1
  refine pt65 (s' := (31, [some (vr 0), none], [vr u1.1.1, vr u1.1.1, vr 0], y_mk u1 2)) (by decide) [0, 0, 0] rfl ⟨trivial, ⟨(by omega : u1.1.1 < 297), (by rw [e1]; decide : sh u1.1.1 = (1, 2))⟩⟩ ?_
  refine wp.cl am_m65 rfl am_m13 7 [vr u1.1.1] [vr u1.1.1, vr 0] rfl (Nat.le_of_ble_eq_true rfl) ⟨Nat.le_of_ble_eq_true rfl, Nat.le_of_ble_eq_true rfl⟩ rfl (Nat.le_of_ble_eq_true rfl) rfl (Nat.le_of_ble_eq_true rfl) (Nat.le_of_ble_eq_true rfl) ⟨_, _, rfl⟩ ?_
  rw [e1]
  refine K13w Y.2.2.2.1 (by show u1.1.1 + 1 = _; omega) ?_
  have ex2 : (mk13 37 (y_mk u1 2)).1.1 = 147 := by rw [mk13_1]; show u1.1.1 + 1 + _ = _; omega
  generalize mk13 37 (y_mk u1 2) = v2 at ex2 H ⊢
  refine pt65 (s' := (37, [some (vr 0), none], [], uR v2 0 2 37)) (by decide) [0] rfl ⟨trivial, ⟨(by omega : 0 < v2.1.1), (by decide)⟩⟩ ?_
  generalize hu2 : uR v2 0 2 37 = u2 at H ⊢
  have e2 : u2.1.1 = 147 := by rw [← hu2]; exact ex2
  refine pt65 (s' := (42, [some (vr 0), none], [vr u2.1.1, vr u2.1.1, vr 0], y_mk u2 15)) (by decide) [0, 0, 0] rfl ⟨trivial, ⟨(by omega : u2.1.1 < 297), (by rw [e2]; decide : sh u2.1.1 = (1, 4))⟩⟩ ?_
  refine wp.cl am_m65 rfl am_m23 6 [vr u2.1.1] [vr u2.1.1, vr 0] rfl (Nat.le_of_ble_eq_true rfl) ⟨Nat.le_of_ble_eq_true rfl, Nat.le_of_ble_eq_true rfl⟩ rfl (Nat.le_of_ble_eq_true rfl) rfl (Nat.le_of_ble_eq_true rfl) (Nat.le_of_ble_eq_true rfl) ⟨_, _, rfl⟩ ?_
  rw [e2]
  refine K23w Y.2.2.1 (by show u2.1.1 + 1 = _; omega) ?_
  have ex3 : (mk23 147 (y_mk u2 15)).1.1 = 165 := by rw [mk23_1']; show u2.1.1 + 1 + _ = _; omega
  generalize mk23 147 (y_mk u2 15) = v3 at ex3 H ⊢
  refine pt65 (s' := (48, [some (vr 0), none], [], uR v3 0 3 147)) (by decide) [0] rfl ⟨trivial, ⟨(by omega : 0 < v3.1.1), (by decide)⟩⟩ ?_
  generalize hu3 : uR v3 0 3 147 = u3 at H ⊢
  have e3 : u3.1.1 = 165 := by rw [← hu3]; exact ex3
  refine pt65 (s' := (53, [some (vr 0), none], [vr u3.1.1, vr u3.1.1, vr 0], y_mk u3 2)) (by decide) [0, 0, 0] rfl ⟨trivial, ⟨(by omega : u3.1.1 < 297), (by rw [e3]; decide : sh u3.1.1 = (1, 2))⟩⟩ ?_
  refine wp.cl am_m65 rfl am_m13 7 [vr u3.1.1] [vr u3.1.1, vr 0] rfl (Nat.le_of_ble_eq_true rfl) ⟨Nat.le_of_ble_eq_true rfl, Nat.le_of_ble_eq_true rfl⟩ rfl (Nat.le_of_ble_eq_true rfl) rfl (Nat.le_of_ble_eq_true rfl) (Nat.le_of_ble_eq_true rfl) ⟨_, _, rfl⟩ ?_
  rw [e3]
  refine K13w Y.2.2.2.2.1 (by show u3.1.1 + 1 = _; omega) ?_
  have ex4 : (mk13 165 (y_mk u3 2)).1.1 = 275 := by rw [mk13_1]; show u3.1.1 + 1 + _ = _; omega
  generalize mk13 165 (y_mk u3 2) = v4 at ex4 H ⊢
  refine pt65 (s' := (59, [some (vr 0), none], [], uR v4 0 4 165)) (by decide) [0] rfl ⟨trivial, ⟨(by omega : 0 < v4.1.1), (by decide)⟩⟩ ?_
  generalize hu4 : uR v4 0 4 165 = u4 at H ⊢
  have e4 : u4.1.1 = 275 := by rw [← hu4]; exact ex4
  refine pt65 (s' := (64, [some (vr 0), none], [], uI u4 0 5 0)) (by decide) [0, 0, 0] rfl ⟨trivial, ⟨(by omega : 0 < u4.1.1), (by decide), (by decide)⟩⟩ ?_
  generalize hu : uI u4 0 5 0 = u at H ⊢
  have hu1 : u.1.1 = 275 := by rw [← hu]; exact e4
  refine pt65 (s' := (69, [some (vr 0), none], [vr u.1.1, vr u.1.1, vr 0], y_mk u 11)) (by decide) [0, 0, 0] rfl ⟨trivial, ⟨(by omega : u.1.1 < 297), (by rw [hu1]; decide : sh u.1.1 = (1, 0))⟩⟩ ?_
  refine wp.cl am_m65 rfl am_m0 6 [vr u.1.1] [vr u.1.1, vr 0] rfl (Nat.le_of_ble_eq_true rfl) ⟨Nat.le_of_ble_eq_true rfl, Nat.le_of_ble_eq_true rfl⟩ rfl (Nat.le_of_ble_eq_true rfl) rfl (Nat.le_of_ble_eq_true rfl) (Nat.le_of_ble_eq_true rfl) ⟨_, _, rfl⟩ ?_
  rw [hu1]
  refine K0w Y.2.2.2.2.2.1 (by show u.1.1 + 1 = _; omega) ?_
  have ex5 : (mk0 275 (y_mk u 11)).1.1 = 281 := by rw [mk0_1]; show u.1.1 + 1 + _ = _; omega
  generalize mk0 275 (y_mk u 11) = v5 at ex5 H ⊢
  refine pt65 (s' := (75, [some (vr 0), none], [], uR v5 0 6 275)) (by decide) [0] rfl ⟨trivial, ⟨(by omega : 0 < v5.1.1), (by decide)⟩⟩ ?_
  generalize hu5 : uR v5 0 6 275 = u5 at H ⊢
  have e5 : u5.1.1 = 281 := by rw [← hu5]; exact ex5
  refine pt65 (s' := (80, [some (vr 0), none], [vr u5.1.1, vr u5.1.1, vr 0], y_mk u5 2)) (by decide) [0, 0, 0] rfl ⟨trivial, ⟨(by omega : u5.1.1 < 297), (by rw [e5]; decide : sh u5.1.1 = (1, 1))⟩⟩ ?_
  refine wp.cl am_m65 rfl am_m8 6 [vr u5.1.1] [vr u5.1.1, vr 0] rfl (Nat.le_of_ble_eq_true rfl) ⟨Nat.le_of_ble_eq_true rfl, Nat.le_of_ble_eq_true rfl⟩ rfl (Nat.le_of_ble_eq_true rfl) rfl (Nat.le_of_ble_eq_true rfl) (Nat.le_of_ble_eq_true rfl) ⟨_, _, rfl⟩ ?_
  rw [e5]
  refine K8w Y.2.2.2.2.2.2.1 (by show u5.1.1 + 1 = _; omega) ?_
  have ex6 : (mk8 281 (y_mk u5 2)).1.1 = 284 := by rw [mk8_1]; show u5.1.1 + 1 + _ = _; omega
  generalize mk8 281 (y_mk u5 2) = v6 at ex6 H ⊢
  refine pt65 (s' := (86, [some (vr 0), none], [], uR v6 0 7 281)) (by decide) [0] rfl ⟨trivial, ⟨(by omega : 0 < v6.1.1), (by decide)⟩⟩ ?_
  generalize hu6 : uR v6 0 7 281 = u6 at H ⊢
  have e6 : u6.1.1 = 284 := by rw [← hu6]; exact ex6
  refine pt65 (s' := (91, [some (vr 0), none], [vr u6.1.1, vr u6.1.1, vr 0], y_mk u6 10)) (by decide) [0, 0, 0] rfl ⟨trivial, ⟨(by omega : u6.1.1 < 297), (by rw [e6]; decide : sh u6.1.1 = (1, 5))⟩⟩ ?_
  refine wp.cl am_m65 rfl am_m47 6 [vr u6.1.1] [vr u6.1.1, vr 0] rfl (Nat.le_of_ble_eq_true rfl) ⟨Nat.le_of_ble_eq_true rfl, Nat.le_of_ble_eq_true rfl⟩ rfl (Nat.le_of_ble_eq_true rfl) rfl (Nat.le_of_ble_eq_true rfl) (Nat.le_of_ble_eq_true rfl) ⟨_, _, rfl⟩ ?_
  rw [e6]
  refine K47w Y.2.2.2.2.2.2.2.1 (by show u6.1.1 + 1 = _; omega) ?_
  have ex7 : (mk47 284 (y_mk u6 10)).1.1 = 288 := by rw [mk47_1]; show u6.1.1 + 1 + _ = _; omega
  generalize mk47 284 (y_mk u6 10) = v7 at ex7 H ⊢
  refine pt65 (s' := (97, [some (vr 0), none], [], uR v7 0 8 284)) (by decide) [0] rfl ⟨trivial, ⟨(by omega : 0 < v7.1.1), (by decide)⟩⟩ ?_
  generalize hu7 : uR v7 0 8 284 = u7 at H ⊢
  have e7 : u7.1.1 = 288 := by rw [← hu7]; exact ex7
  have h9 : (uR (y_mk u7 4) 0 9 288).2.2.2 0 9 = some 288 := by
    show am_up (y_mk u7 4).2.2.2 0 9 (some 288) 0 9 = _
    rw [upx, if_pos ⟨rfl, rfl⟩]
  have ev : u7 = ((288, u7.1.2.1, u7.1.2.2), u7.2.1, u7.2.2.1, u7.2.2.2) := by rw [← e7]
  refine pt65 (s' := (107, [some (vr 0), some (vi 0)], [], uR (y_mk u7 4) 0 9 u7.1.1)) (by decide) [0, 0, 0, 0, 0, 0] rfl ⟨⟨trivial, ⟨(by omega : u7.1.1 < 297), (by decide), (by rw [e7]; decide : sh u7.1.1 = (7, 4)), (by decide)⟩⟩, ⟨(by omega : 0 < u7.1.1 + 1), (by decide)⟩⟩ ?_
  rw [e7]
  exact L65 4 0 _ (by omega) (by show u7.1.1 + 1 = _; omega) h9 H
end MAKES3
