/-! the law's first steps -/
section ENTER
def w00 (L : Nat) (xs : Nat → Int32) : W2 := ((0, 0, L), (fun p k => if p = 9999 then (xs k).toInt else 0), (fun _ _ => 0), (fun _ _ => none))
theorem w00_ok (L : Nat) (xs : Nat → Int32) : lW (w00 L xs) = am_w0 L xs := by
  unfold lW w00 am_w0
  congr 2
  funext p k
  dsimp only
  split
  · exact Int32.ofInt_toInt _
  · rfl
def w65 (w : W2) : W2 := mk65 (y_mk w 10)
theorem lpS_1 : ∀ (m k : Nat) (w : W2), (lpS m k w).1.1 = w.1.1 + 2 * m
  | 0, _, _ => rfl
  | m + 1, k, w => by
    show (lpS m (k + 1) (uR (mk18 (289 + 2 * k) (y_mk w 4)) 288 k (289 + 2 * k))).1.1 = _
    rw [lpS_1 m (k + 1) _]
    have h2 : (uR (mk18 (289 + 2 * k) (y_mk w 4)) 288 k (289 + 2 * k)).1.1 = w.1.1 + 2 := rfl
    omega
theorem uR_1 (w : W2) (p k q : Nat) : (uR w p k q).1.1 = w.1.1 := rfl
theorem uI_1 (w : W2) (p k : Nat) (x : Int) : (uI w p k x).1.1 = w.1.1 := rfl
theorem y_mk_1 (w : W2) (n : Nat) : (y_mk w n).1.1 = w.1.1 + 1 := rfl
theorem w65_1 {w : W2} (hw : w.1.1 = 0) : (w65 w).1.1 = 297 := by
  unfold w65 mk65
  simp only [lpS_1, uR_1, uI_1, y_mk_1, mk23_1', mk13_1, mk0_1, mk8_1, mk47_1, hw]
set_option maxRecDepth 100000 in
set_option maxHeartbeats 4000000 in
theorem law_enter {w : W2} {Q : Option V2 → W2 → Prop} (hw : w.1.1 = 0) (H : wp 14 123 (8, [some (vr 9999), some (vr 0), none, none, none, none, none], [], w65 w) Q) : wp 14 123 (0, [some (vr 9999), none, none, none, none, none, none], [], w) Q := by
  refine pt123 (s' := (4, [some (vr 9999), none, none, none, none, none, none], [vr w.1.1, vr w.1.1], y_mk w 10)) (by decide) [0, 0] rfl ⟨trivial, ⟨(by omega : w.1.1 < 297), (by rw [hw]; decide : sh w.1.1 = (1, 6))⟩⟩ ?_
  refine wp.cl am_m123 rfl am_m65 8 [vr w.1.1] [vr w.1.1] rfl (Nat.le_of_ble_eq_true rfl) ⟨Nat.le_of_ble_eq_true rfl, Nat.le_of_ble_eq_true rfl⟩ rfl (Nat.le_of_ble_eq_true rfl) rfl (Nat.le_of_ble_eq_true rfl) (Nat.le_of_ble_eq_true rfl) ⟨_, _, rfl⟩ ?_
  rw [hw]
  refine K65 (by show w.1.1 + 1 = 1; omega) ?_
  unfold w65 at H
  exact pt123 (s' := (8, [some (vr 9999), some (vr 0), none, none, none, none, none], [], mk65 (y_mk w 10))) (by decide) [0] rfl trivial H
end ENTER
