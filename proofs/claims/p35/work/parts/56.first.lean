/-! the world at the loop's start -/
section FIRST
def Sm (w w' : W2) : Prop := w.1.1 = w'.1.1 ∧ w.1.2.1 = w'.1.2.1 ∧ ∀ p, p < w.1.1 → w.2.1 p = w'.2.1 p ∧ w.2.2.1 p = w'.2.2.1 p ∧ w.2.2.2 p = w'.2.2.2 p
theorem am_up_cg {α : Type} {f g : Nat → Nat → α} {p k a : Nat} {x : α} (e : f a = g a) : am_up f p k x a = am_up g p k x a := by
  funext b
  rw [upx, upx, e]
theorem am_row_cg {α : Type} {f g : Nat → Nat → α} {p a : Nat} {r : Nat → α} (e : a ≠ p → f a = g a) : am_row f p r a = am_row g p r a := by
  funext b
  rw [rowx, rowx]
  by_cases c : a = p
  · rw [if_pos c, if_pos c]
  · rw [if_neg c, if_neg c, e c]
theorem am_rows_cg {α : Type} {f g : Nat → Nat → α} {p n a : Nat} {r : Nat → α} (e : ¬ (p ≤ a ∧ a < p + n) → f a = g a) : am_rows f p n r a = am_rows g p n r a := by
  funext b
  rw [rowsx, rowsx]
  by_cases c : p ≤ a ∧ a < p + n
  · rw [if_pos c, if_pos c]
  · rw [if_neg c, if_neg c, e c]
theorem Sm.uI {w w' : W2} (s : Sm w w') (p k : Nat) (x : Int) : Sm (uI w p k x) (uI w' p k x) := ⟨s.1, s.2.1, fun a ha => ⟨am_up_cg (s.2.2 a ha).1, (s.2.2 a ha).2.1, (s.2.2 a ha).2.2⟩⟩
theorem Sm.uR {w w' : W2} (s : Sm w w') (p k q : Nat) : Sm (uR w p k q) (uR w' p k q) := ⟨s.1, s.2.1, fun a ha => ⟨(s.2.2 a ha).1, (s.2.2 a ha).2.1, am_up_cg (s.2.2 a ha).2.2⟩⟩
theorem Sm.mk {w w' : W2} (s : Sm w w') (n : Nat) : Sm (y_mk w n) (y_mk w' n) := by
  obtain ⟨⟨p, S, L⟩, F, G, h⟩ := w
  obtain ⟨⟨p', S', L'⟩, F', G', h'⟩ := w'
  obtain ⟨s1, s2, s3⟩ := s
  dsimp only at s1 s2 s3
  subst s1 s2
  refine ⟨rfl, rfl, fun a ha => ?_⟩
  have ha' : a < p + 1 := ha
  have q : a ≠ p → a < p := fun c => by omega
  exact ⟨am_row_cg (fun c => (s3 a (q c)).1), am_row_cg (fun c => (s3 a (q c)).2.1), am_row_cg (fun c => (s3 a (q c)).2.2)⟩
theorem Sm.mk2 {w w' : W2} (s : Sm w w') : Sm (y_mk2 w) (y_mk2 w') := by
  obtain ⟨⟨p, S, L⟩, F, G, h⟩ := w
  obtain ⟨⟨p', S', L'⟩, F', G', h'⟩ := w'
  obtain ⟨s1, s2, s3⟩ := s
  dsimp only at s1 s2 s3
  subst s1 s2
  refine ⟨rfl, rfl, fun a ha => ?_⟩
  have ha' : a < p + 9 := ha
  have q : ¬ (p ≤ a ∧ a < p + 9) → a < p := fun c => by omega
  exact ⟨am_rows_cg (fun c => (s3 a (q c)).1), am_rows_cg (fun c => (s3 a (q c)).2.1), am_row_cg (fun _ => am_rows_cg (fun c => (s3 a (q c)).2.2))⟩
theorem Sm.lA (q : Nat) : ∀ (m k : Nat) {w w' : W2}, Sm w w' → Sm (lpA q m k w) (lpA q m k w')
  | 0, _, _, _, s => s
  | m + 1, k, _, _, s => Sm.lA q m (k + 1) ((s.uI _ _ _).uI _ _ _)
theorem Sm.lB (q : Nat) : ∀ (m k : Nat) {w w' : W2}, Sm w w' → Sm (lpB q m k w) (lpB q m k w')
  | 0, _, _, _, s => s
  | m + 1, k, _, _, s => Sm.lB q m (k + 1) ((s.uI _ _ _).uI _ _ _)
theorem Sm.mA (q : Nat) {w w' : W2} (s : Sm w w') : Sm (mkA q w) (mkA q w') := (Sm.uI (Sm.uI (Sm.uR (Sm.mk2 (Sm.uR (Sm.mk (Sm.uR (Sm.mk (Sm.uI (Sm.uI (Sm.uI (Sm.uI (Sm.uR (Sm.mk (Sm.uR (Sm.mk (Sm.uR (Sm.mk (Sm.uR (Sm.mk (Sm.uR (Sm.mk (Sm.uR (Sm.mk s _) _ _ _) _) _ _ _) _) _ _ _) _) _ _ _) _) _ _ _) _) _ _ _) _ _ _) _ _ _) _ _ _) _ _ _) _) _ _ _) _) _ _ _)) _ _ _) _ _ _) _ _ _)
theorem Sm.m23 (q : Nat) {w w' : W2} (s : Sm w w') : Sm (mk23 q w) (mk23 q w') := Sm.lB q 12 0 (Sm.lA q 8 0 (Sm.mA q s))
theorem Sm.m0 (q : Nat) {w w' : W2} (s : Sm w w') : Sm (mk0 q w) (mk0 q w') := (Sm.uI (Sm.uI (Sm.uI (Sm.uI (Sm.uR (Sm.mk (Sm.uR (Sm.mk (Sm.uI (Sm.uI (Sm.uR (Sm.mk (Sm.uR (Sm.mk (Sm.uR (Sm.mk s _) _ _ _) _) _ _ _) _) _ _ _) _ _ _) _ _ _) _) _ _ _) _) _ _ _) _ _ _) _ _ _) _ _ _) _ _ _)
theorem Sm.m8 (q : Nat) {w w' : W2} (s : Sm w w') : Sm (mk8 q w) (mk8 q w') := (Sm.uR (Sm.mk (Sm.uR (Sm.mk s _) _ _ _) _) _ _ _)
theorem Sm.m18 (q : Nat) {w w' : W2} (s : Sm w w') : Sm (mk18 q w) (mk18 q w') := (Sm.uR (Sm.mk (Sm.uI (Sm.uI (Sm.uI s _ _ _) _ _ _) _ _ _) _) _ _ _)
theorem Sm.m47 (q : Nat) {w w' : W2} (s : Sm w w') : Sm (mk47 q w) (mk47 q w') := (Sm.uI (Sm.uI (Sm.uI (Sm.uR (Sm.mk (Sm.uR (Sm.mk (Sm.uI (Sm.uI (Sm.uI (Sm.uI (Sm.uR (Sm.mk s _) _ _ _) _ _ _) _ _ _) _ _ _) _ _ _) _) _ _ _) _) _ _ _) _ _ _) _ _ _) _ _ _)
theorem Sm.lP (q : Nat) : ∀ (m k : Nat) {w w' : W2}, Sm w w' → Sm (lpP q m k w) (lpP q m k w')
  | 0, _, _, _, s => s
  | m + 1, k, _, _, s => Sm.lP q m (k + 1) ((Sm.m23 _ (s.mk 15)).uR _ _ _)
theorem Sm.m13 (q : Nat) {w w' : W2} (s : Sm w w') : Sm (mk13 q w) (mk13 q w') := Sm.lP q 6 0 (((s.mk 6).uR _ _ _).uI _ _ _)
theorem Sm.lS : ∀ (m k : Nat) {w w' : W2}, Sm w w' → Sm (lpS m k w) (lpS m k w')
  | 0, _, _, _, s => s
  | m + 1, k, _, _, s => Sm.lS m (k + 1) ((Sm.m18 _ (s.mk 4)).uR _ _ _)
theorem Sm.m65 {w w' : W2} (s : Sm w w') : Sm (mk65 w) (mk65 w') := (Sm.lS 4 0 (Sm.uR (Sm.mk (Sm.uR (Sm.m47 284 (Sm.mk (Sm.uR (Sm.m8 281 (Sm.mk (Sm.uR (Sm.m0 275 (Sm.mk (Sm.uI (Sm.uR (Sm.m13 165 (Sm.mk (Sm.uR (Sm.m23 147 (Sm.mk (Sm.uR (Sm.m13 37 (Sm.mk (Sm.uR (Sm.m23 19 (Sm.mk (Sm.uR (Sm.m23 1 (Sm.mk s _)) _ _ _) _)) _ _ _) _)) _ _ _) _)) _ _ _) _)) _ _ _) _ _ _) _)) _ _ _) _)) _ _ _) _)) _ _ _) _) _ _ _))
theorem Sm.all (L L' : Nat) (xs xs' : Nat → Int32) : Sm (w65 (w00 L xs)) (w65 (w00 L' xs')) :=
  Sm.m65 (Sm.mk (w := w00 L xs) (w' := w00 L' xs') ⟨rfl, rfl, fun p hp => absurd hp (Nat.not_lt_zero p)⟩ 10)
def Wc : W2 := w65 (w00 0 (fun _ => 0))
theorem Wc_1 : Wc.1.1 = 297 ∧ Wc.1.2.1 ≤ 7302249 := by decide +kernel
end FIRST
