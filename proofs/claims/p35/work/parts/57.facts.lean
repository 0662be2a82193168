/-! what holds in the closed world -/
section FACTS
theorem rf_bd : ∀ p k q, rf p k = some q → p < 297 ∧ k < 32 := by
  intro p k q e
  unfold rf at e
  by_cases c1 : isT p = true
  · rw [c1] at e
    have hp : p ∈ tks := by
      unfold isT at c1
      obtain ⟨x, h1, h2⟩ := List.any_eq_true.mp c1
      have := Nat.eq_of_beq_eq_true h2
      rw [this]; exact h1
    have hb : ∀ x, x ∈ tks → x < 297 := by decide
    refine ⟨hb p hp, ?_⟩
    have e' : rfT p k = some q := e
    unfold rfT at e'
    split at e' <;> first | omega | (simp at e')
  · have c1' : isT p = false := by cases h : isT p; rfl; exact absurd h c1
    rw [c1'] at e
    have e1 : cond (Nat.ble 9 p && isT (p - 9)) (cond (Nat.blt k 8) (some (p + 1 + k)) none) (rfx p k) = some q := e
    by_cases c2 : (Nat.ble 9 p && isT (p - 9)) = true
    · rw [c2] at e1
      have hp : p - 9 ∈ tks := by
        have c3 := (Bool.and_eq_true _ _ ▸ c2 : _ ∧ _).2
        unfold isT at c3
        obtain ⟨x, h1, h2⟩ := List.any_eq_true.mp c3
        have := Nat.eq_of_beq_eq_true h2
        rw [this]; exact h1
      have hb : ∀ x, x ∈ tks → x < 280 := by decide
      have := hb _ hp
      have e2 : cond (Nat.blt k 8) (some (p + 1 + k)) none = some q := e1
      by_cases c4 : Nat.blt k 8 = true
      · have : k < 8 := Nat.le_of_ble_eq_true c4
        omega
      · have c4' : Nat.blt k 8 = false := by cases h : Nat.blt k 8; rfl; exact absurd h c4
        rw [c4'] at e2
        simp at e2
    · have c2' : (Nat.ble 9 p && isT (p - 9)) = false := by cases h : (Nat.ble 9 p && isT (p - 9)); rfl; exact absurd h c2
      rw [c2'] at e1
      have e2 : rfx p k = some q := e1
      unfold rfx at e2
      split at e2 <;> first | omega | (simp at e2)
theorem Wc_h : ∀ p : Fin 297, ∀ k : Fin 32, (match rf p.val k.val with | none => true | some q => Wc.2.2.2 p.val k.val == some q) = true := by decide +kernel
theorem Wc_rf : ∀ p k q, rf p k = some q → Wc.2.2.2 p k = some q := by
  intro p k q e
  obtain ⟨h1, h2⟩ := rf_bd p k q e
  have := Wc_h ⟨p, h1⟩ ⟨k, h2⟩
  dsimp only at this
  rw [e] at this
  exact eq_of_beq this
end FACTS
