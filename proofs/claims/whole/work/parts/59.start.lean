/-! the invariant at the loop's start; the goal -/
section START
theorem Wc_vd : Yvd (Wc.2.1 298) := by
  have z0 : Wc.2.1 298 0 = 0 := by decide +kernel
  have z1 : Wc.2.1 298 1 = 0 := by decide +kernel
  refine ⟨by decide +kernel, by decide +kernel, by decide +kernel, by decide +kernel, by decide +kernel, by decide +kernel, by decide +kernel, by decide +kernel, by decide +kernel, by decide +kernel, by decide +kernel, by decide +kernel, fun k hk => ?_, by decide +kernel, by decide +kernel, by decide +kernel, fun k hk => ?_, by decide +kernel⟩
  · rw [z0] at hk; omega
  · rw [z1] at hk; omega
theorem Wc_tk : Ytk Wc.2.1 1 (Wc.2.1 298) := by
  refine ⟨by decide +kernel, by decide +kernel, by decide +kernel, by decide +kernel, by decide +kernel, by decide +kernel, by decide +kernel, by decide +kernel, by decide +kernel, by decide +kernel, by decide +kernel, by decide +kernel, by decide +kernel, by decide +kernel, by decide +kernel⟩
theorem Wc_sth (pp : Nat) (e : ∀ i, i < 6 → Wc.2.2.2 (pp + 1) i = some (pp + 2 + 18 * i)) : Ysth Wc.2.2.2 pp (fun i => pp + 2 + 18 * i) :=
  ⟨e, fun i hi => ⟨i, hi, rfl⟩, fun i j hi hj h => by
    have h : pp + 2 + 18 * i = pp + 2 + 18 * j := h
    omega⟩
theorem Wc_s37 : ∀ i, i < 6 → Wc.2.2.2 38 i = some (39 + 18 * i) := by decide +kernel
theorem Wc_s165 : ∀ i, i < 6 → Wc.2.2.2 166 i = some (167 + 18 * i) := by decide +kernel
theorem Wc_past : Wc.2.1 37 1 = 0 := by decide +kernel
theorem Wc_n : Wc.2.1 297 2 = 0 := by decide +kernel
theorem Wc_im : Wc.2.1 0 5 = 0 ∧ Wc.2.1 297 5 = -1 := by decide +kernel
theorem Wc_tape : Wc.2.1 297 7 = 0 ∧ Wc.2.1 284 1 = 0 := by decide +kernel
theorem Wc_sh1 : ∀ s, s < 4 → Wc.2.1 (289 + 2 * s) 0 = 0 ∧ Wc.2.1 303 s = -1 := by decide +kernel
theorem Wc_sh2 : ∀ s, s < 4 → ∀ k, k < 24 → Wc.2.2.1 (290 + 2 * s) k = Wc.2.2.1 305 (24 * s + k) ∧ R64 (Wc.2.2.1 305 (24 * s + k)) := by decide +kernel
theorem inv_of {F G : Nat → Nat → Int} {h : Nat → Nat → Option Nat} {xs : Nat → Int} (e : ∀ p, p < 313 → F p = Wc.2.1 p ∧ G p = Wc.2.2.1 p ∧ h p = Wc.2.2.2 p) (ex : F 9999 = xs) (hr : ∀ k, R32 (xs k)) : Inv F G h xs := by
  have eF : ∀ p, p < 313 → F p = Wc.2.1 p := fun p hp => (e p hp).1
  have e298 := eF 298 (by decide)
  have e297 := eF 297 (by decide)
  have t1 : Ytk F 1 (F 298) := by
    rw [e298]
    exact Wc_tk.cong (fun x h1 h2 => eF x (by omega))
  refine ⟨fun p k q hq => by rw [(e p (rf_bd p k q hq).1).2.2]; exact Wc_rf p k q hq, ⟨0, by rw [e297]; exact Wc_n, t1, by rw [e298]; exact Wc_vd, ⟨_, (Wc_sth 37 Wc_s37).cong (e 38 (by decide)).2.2, by rw [eF 37 (by decide)]; exact Wc_past, by decide, fun i hi => absurd hi (Nat.not_lt_zero i)⟩, fun i hi => absurd hi (Nat.not_lt_zero i)⟩, Or.inl ⟨by rw [eF 0 (by decide)]; exact Wc_im.1, by rw [e297]; exact Wc_im.2, _, (Wc_sth 165 Wc_s165).cong (e 166 (by decide)).2.2⟩, ?_, ?_, fun k => by rw [ex], hr⟩
  · unfold Ytape
    rw [e297, eF 284 (by decide), Wc_tape.1, Wc_tape.2]
    exact ⟨by decide, by decide, rfl, fun k hk => by omega⟩
  · refine ⟨fun s hs => Or.inl ?_, fun s hs k hk => ?_⟩
    · rw [eF (289 + 2 * s) (by omega), eF 303 (by decide)]
      exact Wc_sh1 s hs
    · rw [(e (290 + 2 * s) (by omega)).2.1, (e 305 (by decide)).2.1]
      exact Wc_sh2 s hs k hk
theorem am_goal : am_Goal := by
  intro L xs hL
  have sm := Sm.all L 0 xs (fun _ => 0)
  have kp := Kp.all L xs
  have W : wp 12 201 (0, [some (vr 9999), none, none, none], [], w00 L xs) (fun v w => v = some (vi 1) ∧ w.1.1 = 313 ∧ w.1.2.1 ≤ 7302249) := by
    refine law_enter rfl ?_
    have sm : Sm (w111 (w00 L xs)) Wc := sm
    generalize w111 (w00 L xs) = w at sm kp ⊢
    obtain ⟨⟨p, S, L'⟩, F, G, h⟩ := w
    obtain ⟨s1, s2, s3⟩ := sm
    dsimp only at s1 s2 s3 kp
    have hp : p = 313 := s1.trans Wc_1.1
    have hS : S ≤ 7302249 := by rw [s2]; exact Wc_1.2
    have hL' : L' = L := kp.2
    subst hp
    subst hL'
    exact law_loop (xs := fun k => (xs k).toInt) hL (fun F' G' h' _ => ⟨rfl, rfl, hS⟩) L' 0 F G h (Int.le_refl 0) (by omega) (by omega) (inv_of (fun p hp => s3 p hp) kp.1 (fun k => r32_toInt _))
  obtain ⟨v, w, hR, rfl, h1, h2⟩ := W (am_args 4 [.ref 9999]) (Lr.args 4 [vr 9999])
  refine ⟨lW w, ?_, h2, ?_⟩
  · show w.1.1 ≤ 600000
    omega
  · rw [← w00_ok]
    exact hR
end START
