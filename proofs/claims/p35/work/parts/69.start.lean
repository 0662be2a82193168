/-! the law's own body; its start; the goal -/
section LAWL
variable {S L : Nat} {F G : Nat → Nat → Int} {h : Nat → Nat → Option Nat} {Q : Option V2 → W2 → Prop} {r : Row} {n : Nat} {R : Nat → Row}
theorem k253 (o : Oy F h r n R) (hL : (L : Int) ≤ 3072) (r5 : r 5 = 1) (H : ∀ F' G' h', Q (some (vi 1)) (Wd S L F' G' h')) : C123_253 (Wd S L F G h) Q := by
  refine T123_253 o.hh ?_
  refine k112 o (by decide) hL (fun a a0 a1 => ?_)
  exact k122 o ⟨a0, a1⟩ r5 (fun F' h' => ⟨by decide, by decide, H F' G h'⟩)
theorem k197 (o : Oy F h r n R) (hL : (L : Int) ≤ 3072) (r5 : r 5 = 1) (H : ∀ F' G' h', Q (some (vi 1)) (Wd S L F' G' h')) : C123_197 (Wd S L F G h) Q := by
  have v := o.v
  have hw := v.w
  have es : sForget r (r 1) = (-1, r) := by unfold sForget; rw [if_neg (by omega)]
  refine T123_197 o.hh ?_
  refine k75 o (by decide) (fun F1 o1 b1 => ?_)
  have rc : sCount r (n : Int) 9 = r 1 := rfl
  rw [rc]
  refine k81 o1 (by omega) (fun F2 h2 n2 R2 o2 f2 => ?_)
  rw [es] at o2 ⊢
  dsimp only at o2 ⊢
  refine ⟨by decide, rfl, ?_⟩
  refine k81 o2 (by decide) (fun F3 h3 n3 R3 o3 f3 => ⟨by omega, ?_⟩)
  by_cases c : r 1 = 0
  · have e2 : sForget r 0 = (-1, r) := by unfold sForget; rw [if_neg (by omega)]
    rw [e2] at o3 ⊢
    dsimp only at o3 ⊢
    rw [if_pos c]
    refine ⟨by decide, rfl, ?_⟩
    exact k119 o3 (fun F4 o4 b4 => ⟨by decide, by decide, k253 o4 hL r5 H⟩)
  · have e2 : sForget r 0 = (r 1 - 1, rForget r 0) := by unfold sForget; rw [if_pos (by omega)]; rfl
    rw [e2] at o3 ⊢
    rw [if_neg c]
    have q5 : rForget r 0 5 = 1 := by unfold rForget; rw [if_neg (by decide), if_neg (by omega)]; exact r5
    dsimp only at o3 ⊢
    refine ⟨by omega, by omega, rfl, ?_⟩
    exact k119 o3 (fun F4 o4 b4 => ⟨by decide, by decide, k253 o4 hL q5 H⟩)
theorem k158 (o : Oy F h r n R) (hL : (L : Int) ≤ 3072) (r5 : r 5 = 1) (H : ∀ F' G' h', Q (some (vi 1)) (Wd S L F' G' h')) {x : Int} (hx : (r 0 = 0 ∧ x = 0) ∨ (0 ≤ x ∧ x < r 0)) : C123_158 (r 0) x (Wd S L F G h) Q := by
  have v := o.v
  have hn := v.n
  refine T123_158 o.hh ?_
  refine k69 o (by omega) (fun F2 h2 n2 R2 o2 f2 => ⟨by omega, ?_⟩)
  by_cases c : r 0 = 0
  · have e2 : sOut r x = (-1, r) := by unfold sOut; rw [if_neg (by omega)]
    rw [e2] at o2 ⊢
    dsimp only at o2 ⊢
    rw [if_pos c]
    refine ⟨by decide, rfl, ?_⟩
    exact k117 o2 (fun F4 o4 b4 => ⟨by decide, by decide, k197 o4 hL r5 H⟩)
  · have e2 : sOut r x = (r 0 - 1, rOut r x.toNat) := by unfold sOut; rw [if_pos (by omega)]
    rw [e2] at o2 ⊢
    rw [if_neg c]
    have q5 : rOut r x.toNat 5 = 1 := by unfold rOut; rw [if_neg (by decide), if_neg (by omega)]; exact r5
    dsimp only at o2 ⊢
    refine ⟨by omega, by omega, rfl, ?_⟩
    exact k117 o2 (fun F4 o4 b4 => ⟨by decide, by decide, k197 o4 hL q5 H⟩)
theorem k131 (o : Oy F h r n R) (hL : (L : Int) ≤ 3072) (r5 : r 5 = 1) (H : ∀ F' G' h', Q (some (vi 1)) (Wd S L F' G' h')) : C123_131 (Wd S L F G h) Q := by
  have v := o.v
  have hn := v.n
  refine T123_131 o.hh ?_
  refine k75 o (by decide) (fun F1 o1 b1 => ?_)
  have rc : sCount r (n : Int) 0 = r 0 := rfl
  rw [rc]
  refine ⟨by omega, ?_⟩
  by_cases c : r 0 = 0
  · rw [if_pos c]
    exact k158 o1 hL r5 H (Or.inl ⟨c, rfl⟩)
  · rw [if_neg c]
    refine k112 o1 (by decide) hL (fun a a0 a1 => ⟨⟨a0, a1, by omega, by omega⟩, ?_⟩)
    exact k158 o1 hL r5 H (Or.inr ⟨Int.emod_nonneg _ c, Int.emod_lt_of_pos _ (by omega)⟩)
theorem k123 (o : Oy F h r 0 R) (hL : (L : Int) ≤ 3072) (e05 : F 0 5 = 0) (et : F 284 1 = 0) (r1 : r 1 = 0) (r2 : r 2 = 4) (r3 : r 3 = 1) (r4 : r 4 = 1) (r5 : r 5 = 1) (H : ∀ F' G' h', Q (some (vi 1)) (Wd S L F' G' h')) : C123_8 (Wd S L F G h) Q := by
  have eg : sGuess r 0 = -4 := by unfold sGuess; rw [if_pos (Or.inl rfl), if_pos r1]
  refine T123_8 o.hh ?_
  refine k88n o ⟨by decide, rfl, ?_⟩
  refine k91n o e05 ⟨by decide, rfl, ?_⟩
  refine k84 o (by decide) ?_
  rw [eg]
  refine ⟨by decide, rfl, ?_⟩
  clear eg
  refine k115 o hL et r1 r2 r3 r4 r5 (fun F1 h1 q n1 R1 o1 et1 e01 q4 q5 => ⟨by decide, by decide, ?_⟩)
  refine k117 o1 (fun F2 o2 b2 => ⟨by decide, by decide, ?_⟩)
  refine k119 o2 (fun F3 o3 b3 => ⟨by decide, by decide, ?_⟩)
  refine k112 o3 (by decide) hL (fun a a0 a1 => ⟨⟨a0, a1⟩, ?_⟩)
  refine k71 o3 (by omega) (fun F4 h4 n4 R4 o4 f4 => ⟨by omega, ?_⟩)
  have go : ∀ (q' : Row), Oy F4 h4 q' n4 R4 → q' 5 = 1 → C118_0 0 (Wd S L F4 G h4) (fun v w1 => ∃ (v54 : Int) (F55 : Nat → Nat → Int) (G56 : Nat → Nat → Int), v = some (vi v54) ∧ w1 = (Wd S L F55 G56 h4) ∧
           (R32 v54 ∧
           ¬ (v54 = 0) ∧
           C118_0 1 (Wd S L F55 G56 h4) (fun v w1 => ∃ (v59 : Int) (F60 : Nat → Nat → Int) (G61 : Nat → Nat → Int), v = some (vi v59) ∧ w1 = (Wd S L F60 G61 h4) ∧
            (R32 v59 ∧
            ¬ (v59 = 0) ∧
            C112_0 21 (Wd S L F60 G61 h4) (fun v w1 => ∃ (v64 : Int), v = some (vi v64) ∧ w1 = (Wd S L F60 G61 h4) ∧
             C120_0 v64 (Wd S L F60 G61 h4) (fun v w1 => ∃ (v65 : Int) (F66 : Nat → Nat → Int) (G67 : Nat → Nat → Int), v = some (vi v65) ∧ w1 = (Wd S L F66 G67 h4) ∧
              (R32 v65 ∧
              ¬ (v65 = 0) ∧
              C123_131  (Wd S L F66 G67 h4) Q)))))))  := fun q' o4 q5' => by
    refine k118 o4 (Or.inl rfl) (fun F5 G5 o5 b5 => ⟨by decide, by decide, ?_⟩)
    refine k118 o5 (Or.inr rfl) (fun F6 G6 o6 b6 => ⟨by decide, by decide, ?_⟩)
    refine k112 o6 (by decide) hL (fun b b0 b1 => ?_)
    exact k120 o6 ⟨b0, b1⟩ (fun F7 G7 o7 b7 => ⟨by decide, by decide, k131 o7 hL q5' H⟩)
  by_cases c : a % 4 = 1
  · have es : sWindow q (a % 4) = (-2, q) := by unfold sWindow; rw [if_pos (by omega), if_pos (by omega)]
    rw [es] at o4 ⊢
    dsimp only at o4 ⊢
    rw [if_pos c]
    exact ⟨by decide, rfl, go q o4 q5⟩
  · have es : sWindow q (a % 4) = (q 4, yu1 q 4 (a % 4)) := by unfold sWindow; rw [if_pos (by omega), if_neg (by omega)]
    rw [es] at o4 ⊢
    rw [if_neg c]
    refine ⟨by dsimp only; omega, q4, go _ o4 ?_⟩
    show yu1 q 4 (a % 4) 5 = 1
    unfold yu1; rw [if_neg (by decide)]; exact q5
end LAWL
section START
def rA : Row := fun j => if j = 2 then 4 else if j = 3 ∨ j = 4 ∨ j = 5 then 1 else if 6 ≤ j ∧ j < 14 then ((j - 6 : Nat) : Int) else if 14 ≤ j ∧ j < 22 then 12 - ((j - 14 : Nat) : Int) else if 22 ≤ j ∧ j < 34 then (((j - 22) % 8 : Nat) : Int) else if 34 ≤ j ∧ j < 46 then 1 else 0
theorem rA_vd : Yvd rA := by
  have z0 : rA 0 = 0 := by decide +kernel
  have z1 : rA 1 = 0 := by decide +kernel
  refine ⟨by decide +kernel, by decide +kernel, by decide +kernel, by decide +kernel, by decide +kernel, by decide +kernel, by decide +kernel, by decide +kernel, by decide +kernel, by decide +kernel, by decide +kernel, by decide +kernel, fun k hk => ?_, by decide +kernel, by decide +kernel, by decide +kernel, fun k hk => ?_, by decide +kernel⟩
  · rw [z0] at hk; omega
  · rw [z1] at hk; omega
theorem Wc_tk : Ytk Wc.2.1 1 rA := by
  refine ⟨by decide +kernel, by decide +kernel, by decide +kernel, by decide +kernel, by decide +kernel, by decide +kernel, by decide +kernel, by decide +kernel, by decide +kernel, by decide +kernel, by decide +kernel, by decide +kernel, by decide +kernel, by decide +kernel, by decide +kernel⟩
theorem Wc_sth (pp : Nat) (e : ∀ i, i < 6 → Wc.2.2.2 (pp + 1) i = some (pp + 2 + 18 * i)) : Ysth Wc.2.2.2 pp (fun i => pp + 2 + 18 * i) :=
  ⟨e, fun i hi => ⟨i, hi, rfl⟩, fun i j hi hj h => by
    have h : pp + 2 + 18 * i = pp + 2 + 18 * j := h
    omega⟩
theorem Wc_s37 : ∀ i, i < 6 → Wc.2.2.2 38 i = some (39 + 18 * i) := by decide +kernel
theorem Wc_s165 : ∀ i, i < 6 → Wc.2.2.2 166 i = some (167 + 18 * i) := by decide +kernel
theorem Wc_past : Wc.2.1 37 1 = 0 := by decide +kernel
theorem Wc_im : Wc.2.1 0 5 = 0 ∧ Wc.2.1 284 1 = 0 := by decide +kernel
theorem oy_of {F G : Nat → Nat → Int} {h : Nat → Nat → Option Nat} (e : ∀ p, p < 297 → F p = Wc.2.1 p ∧ G p = Wc.2.2.1 p ∧ h p = Wc.2.2.2 p) (hr : ∀ k, R32 (F 9999 k)) : Oy F h rA 0 (fun _ => rA) ∧ F 0 5 = 0 ∧ F 284 1 = 0 := by
  have eF : ∀ p, p < 297 → F p = Wc.2.1 p := fun p hp => (e p hp).1
  have t1 : Ytk F 1 rA := Wc_tk.cong (fun x h1 h2 => eF x (by omega))
  refine ⟨⟨fun p k q hq => by rw [(e p (rf_bd p k q hq).1).2.2]; exact Wc_rf p k q hq, ⟨t1, rA_vd, ⟨_, (Wc_sth 37 Wc_s37).cong (e 38 (by decide)).2.2, by rw [eF 37 (by decide)]; exact Wc_past, by decide, fun i hi => absurd hi (Nat.not_lt_zero i)⟩, fun i hi => absurd hi (Nat.not_lt_zero i)⟩, ⟨_, (Wc_sth 165 Wc_s165).cong (e 166 (by decide)).2.2⟩, hr⟩, ?_, ?_⟩
  · rw [eF 0 (by decide)]; exact Wc_im.1
  · rw [eF 284 (by decide)]; exact Wc_im.2
theorem am_goal : am_Goal := by
  intro L xs hL
  have sm := Sm.all L 0 xs (fun _ => 0)
  have kp := Kp.all L xs
  have W : wp 14 123 (0, [some (vr 9999), none, none, none, none, none, none], [], w00 L xs) (fun v w => v = some (vi 1) ∧ w.1.1 = 297 ∧ w.1.2.1 ≤ 7302249) := by
    refine law_enter rfl ?_
    have sm : Sm (w65 (w00 L xs)) Wc := sm
    generalize w65 (w00 L xs) = w at sm kp ⊢
    obtain ⟨⟨p, S, L'⟩, F, G, h⟩ := w
    obtain ⟨s1, s2, s3⟩ := sm
    dsimp only at s1 s2 s3 kp
    have hp : p = 297 := s1.trans Wc_1.1
    have hS : S ≤ 7302249 := by rw [s2]; exact Wc_1.2
    have hL' : L' = L := kp.2
    subst hp
    subst hL'
    obtain ⟨o, e05, et⟩ := oy_of (F := F) (G := G) (h := h) (fun p hp => s3 p hp) (fun k => by rw [kp.1]; exact r32_toInt _)
    exact k123 o (by omega) e05 et rfl rfl rfl rfl rfl (fun F' G' h' => ⟨rfl, rfl, hS⟩)
  obtain ⟨v, w, hR, rfl, h1, h2⟩ := W (am_args 7 [.ref 9999]) (Lr.args 7 [vr 9999])
  refine ⟨lW w, ?_, Nat.le_trans h2 (by decide), ?_⟩
  · show w.1.1 ≤ 600000
    omega
  · rw [← w00_ok]
    exact hR
end START
