/-! the makes leave the given ints -/
section KEEP
variable {f : Nat → Int} {L c q : Nat} {w : W2}
def Kp (f : Nat → Int) (L c : Nat) (w : W2) : Prop := w.1.1 + c < 9999 ∧ w.2.1 9999 = f ∧ w.1.2.2 = L
theorem Kp.uI {p k : Nat} {x : Int} (hp : p < 9999) (s : Kp f L c w) : Kp f L c (uI w p k x) := by
  refine ⟨s.1, ?_, s.2.2⟩
  show am_up w.2.1 p k x 9999 = f
  funext b
  rw [upx, if_neg (by omega), s.2.1]
theorem Kp.uR {p k x : Nat} (s : Kp f L c w) : Kp f L c (uR w p k x) := s
theorem Kp.mk {n : Nat} (s : Kp f L (c + 1) w) : Kp f L c (y_mk w n) := by
  obtain ⟨⟨p, S, L'⟩, F, G, h⟩ := w
  obtain ⟨s1, s2, s3⟩ := s
  dsimp only at s1 s2 s3
  refine ⟨by show p + 1 + c < 9999; omega, ?_, s3⟩
  show am_row F p _ 9999 = f
  rw [am_row_ne (by omega), s2]
theorem Kp.mk2 (s : Kp f L (c + 9) w) : Kp f L c (y_mk2 w) := by
  obtain ⟨⟨p, S, L'⟩, F, G, h⟩ := w
  obtain ⟨s1, s2, s3⟩ := s
  dsimp only at s1 s2 s3
  refine ⟨by show p + 9 + c < 9999; omega, ?_, s3⟩
  show am_rows F p 9 _ 9999 = f
  rw [am_rows_ne (by omega), s2]
theorem Kp.lA (hq : q < 9000) : ∀ (m k : Nat) {w : W2}, Kp f L c w → Kp f L c (lpA q m k w)
  | 0, _, _, s => s
  | m + 1, k, _, s => Kp.lA hq m (k + 1) (Kp.uI (by omega) (Kp.uI (by omega) s))
theorem Kp.lB (hq : q < 9000) : ∀ (m k : Nat) {w : W2}, Kp f L c w → Kp f L c (lpB q m k w)
  | 0, _, _, s => s
  | m + 1, k, _, s => Kp.lB hq m (k + 1) (Kp.uI (by omega) (Kp.uI (by omega) s))
theorem Kp.mA (hq : q < 9000) (s : Kp f L (c + 17) w) : Kp f L c (mkA q w) := (Kp.uI (by omega) (Kp.uI (by omega) (Kp.uR (Kp.mk2 (Kp.uR (Kp.mk (Kp.uR (Kp.mk (Kp.uI (by omega) (Kp.uI (by omega) (Kp.uI (by omega) (Kp.uI (by omega) (Kp.uR (Kp.mk (Kp.uR (Kp.mk (Kp.uR (Kp.mk (Kp.uR (Kp.mk (Kp.uR (Kp.mk (Kp.uR (Kp.mk s))))))))))))))))))))))))
theorem Kp.m23 (hq : q < 9000) (s : Kp f L (c + 17) w) : Kp f L c (mk23 q w) := Kp.lB hq 12 0 (Kp.lA hq 8 0 (Kp.mA hq s))
theorem Kp.m0 (hq : q < 9000) (s : Kp f L (c + 5) w) : Kp f L c (mk0 q w) := (Kp.uI (by omega) (Kp.uI (by omega) (Kp.uI (by omega) (Kp.uI (by omega) (Kp.uR (Kp.mk (Kp.uR (Kp.mk (Kp.uI (by omega) (Kp.uI (by omega) (Kp.uR (Kp.mk (Kp.uR (Kp.mk (Kp.uR (Kp.mk s))))))))))))))))
theorem Kp.m8 (hq : q < 9000) (s : Kp f L (c + 2) w) : Kp f L c (mk8 q w) := (Kp.uR (Kp.mk (Kp.uR (Kp.mk s))))
theorem Kp.m18 (hq : q < 9000) (s : Kp f L (c + 1) w) : Kp f L c (mk18 q w) := (Kp.uR (Kp.mk (Kp.uI (by omega) (Kp.uI (by omega) (Kp.uI (by omega) s)))))
theorem Kp.m47 (hq : q < 9000) (s : Kp f L (c + 3) w) : Kp f L c (mk47 q w) := (Kp.uI (by omega) (Kp.uI (by omega) (Kp.uI (by omega) (Kp.uR (Kp.mk (Kp.uR (Kp.mk (Kp.uI (by omega) (Kp.uI (by omega) (Kp.uI (by omega) (Kp.uI (by omega) (Kp.uR (Kp.mk s)))))))))))))
theorem Kp.lP (hq : q < 297) : ∀ (m k : Nat) {w : W2}, k + m ≤ 6 → Kp f L (c + 18 * m) w → Kp f L c (lpP q m k w)
  | 0, _, _, _, s => s
  | m + 1, k, w, e, s => by
    have s' : Kp f L ((c + 18 * m) + 17 + 1) w := by
      rw [show c + 18 * m + 17 + 1 = c + 18 * (m + 1) by omega]; exact s
    exact Kp.lP hq m (k + 1) (by omega) (Kp.uR (Kp.m23 (by omega) (Kp.mk s')))
theorem Kp.m13 (hq : q < 297) (s : Kp f L (c + 109) w) : Kp f L c (mk13 q w) := Kp.lP hq 6 0 (by omega) (Kp.uI (by omega) (Kp.uR (Kp.mk s)))
theorem Kp.lS : ∀ (m k : Nat) {w : W2}, k + m ≤ 4 → Kp f L (c + 2 * m) w → Kp f L c (lpS m k w)
  | 0, _, _, _, s => s
  | m + 1, k, w, e, s => by
    have s' : Kp f L ((c + 2 * m) + 1 + 1) w := by
      rw [show c + 2 * m + 1 + 1 = c + 2 * (m + 1) by omega]; exact s
    exact Kp.lS m (k + 1) (by omega) (Kp.uR (Kp.m18 (by omega) (Kp.mk s')))
theorem Kp.m65 (s : Kp f L (c + 296) w) : Kp f L c (mk65 w) := (Kp.lS 4 0 (by omega) (Kp.uR (Kp.mk (Kp.uR (Kp.m47 (by omega) (Kp.mk (Kp.uR (Kp.m8 (by omega) (Kp.mk (Kp.uR (Kp.m0 (by omega) (Kp.mk (Kp.uI (by omega) (Kp.uR (Kp.m13 (by omega) (Kp.mk (Kp.uR (Kp.m23 (by omega) (Kp.mk (Kp.uR (Kp.m13 (by omega) (Kp.mk (Kp.uR (Kp.m23 (by omega) (Kp.mk (Kp.uR (Kp.m23 (by omega) (Kp.mk s))))))))))))))))))))))))))))
theorem Kp.all (L : Nat) (xs : Nat → Int32) : (w65 (w00 L xs)).2.1 9999 = (fun k => (xs k).toInt) ∧ (w65 (w00 L xs)).1.2.2 = L := by
  have s0 : Kp (fun k => (xs k).toInt) L (0 + 296 + 1) (w00 L xs) := ⟨by show 0 + _ < 9999; decide, by show (fun k => if (9999 : Nat) = 9999 then (xs k).toInt else 0) = _; funext k; rw [if_pos rfl], rfl⟩
  have s := Kp.m65 (Kp.mk (n := 10) s0)
  exact s.2
end KEEP
