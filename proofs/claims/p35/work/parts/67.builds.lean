/-! builds: the law's shapes, signs, sounds, frame and words -/
section BUILDSL
variable {S L : Nat} {F G : Nat → Nat → Int} {h : Nat → Nat → Option Nat} {Q : Option V2 → W2 → Prop} {r : Row} {n : Nat} {R : Nat → Row} {F0 : Nat → Nat → Int}
theorem k66b (o : Oy F h r n R) {a b d : Int} (ha : 0 ≤ a ∧ a ≤ 7) (hb : 0 ≤ b ∧ b ≤ 12) (hd : 0 ≤ d ∧ d ≤ 12) {P : Int → (Nat → Nat → Int) → (Nat → Nat → Option Nat) → Prop} (H : ∀ F' h' n' R' r' x, Oy F' h' r' n' R' → (∀ p, p = 0 ∨ 147 ≤ p → F' p = F p) → (∀ j, j < 6 → r' j = r j) → (x = -2 ∨ (0 ≤ x ∧ x < 169)) → P x F' h') : C66_0 a b d (Wd S L F G h) (fun v w1 => ∃ (x : Int) (F' : Nat → Nat → Int) (h' : Nat → Nat → Option Nat), v = some (vi x) ∧ w1 = (Wd S L F' G h') ∧ RfH h' ∧ P x F' h') := by
  refine k66 o (by omega) (by omega) (by omega) (fun F' h' n' R' o' f => ?_)
  have v := o.v
  have q1 := v.op a.toNat (by omega)
  have q2 := v.wd a.toNat (by omega)
  by_cases c : r (6 + a.toNat) = b ∧ r (14 + a.toNat) = d
  · have es : sShape r a b d = (-2, r) := by unfold sShape; rw [if_pos (by omega), if_pos c]
    rw [es] at o' ⊢
    exact H F' h' n' R' r (-2) o' f (fun _ _ => rfl) (Or.inl rfl)
  · have es : sShape r a b d = (13 * r (6 + a.toNat) + r (14 + a.toNat), yu1 (yu1 r (6 + a.toNat) b) (14 + a.toNat) d) := by unfold sShape; rw [if_pos (by omega), if_neg c]
    rw [es] at o' ⊢
    refine H F' h' n' R' _ _ o' f (fun j hj => ?_) (Or.inr (by dsimp only; omega))
    show yu1 (yu1 r (6 + a.toNat) b) (14 + a.toNat) d j = r j
    unfold yu1; rw [if_neg (by omega), if_neg (by omega)]
theorem k67b (o : Oy F h r n R) {a b d : Int} (ha : 0 ≤ a ∧ a ≤ 11) (hb : 0 ≤ b ∧ b ≤ 7) (hd : 0 ≤ d ∧ d ≤ 5) {P : Int → (Nat → Nat → Int) → (Nat → Nat → Option Nat) → Prop} (H : ∀ F' h' n' R' r' x, Oy F' h' r' n' R' → (∀ p, p = 0 ∨ 147 ≤ p → F' p = F p) → (∀ j, j < 6 → r' j = r j) → (x = -2 ∨ (0 ≤ x ∧ x < 48)) → P x F' h') : C67_0 a b d (Wd S L F G h) (fun v w1 => ∃ (x : Int) (F' : Nat → Nat → Int) (h' : Nat → Nat → Option Nat), v = some (vi x) ∧ w1 = (Wd S L F' G h') ∧ RfH h' ∧ P x F' h') := by
  refine k67 o (by omega) (by omega) (by omega) (fun F' h' n' R' o' f => ?_)
  have v := o.v
  have q1 := v.sh a.toNat (by omega)
  have q2 := v.pu a.toNat (by omega)
  by_cases c : r (22 + a.toNat) = b ∧ r (34 + a.toNat) = d
  · have es : sSign r a b d = (-2, r) := by unfold sSign; rw [if_pos (by omega), if_pos c]
    rw [es] at o' ⊢
    exact H F' h' n' R' r (-2) o' f (fun _ _ => rfl) (Or.inl rfl)
  · have es : sSign r a b d = (6 * r (22 + a.toNat) + r (34 + a.toNat), yu1 (yu1 r (22 + a.toNat) b) (34 + a.toNat) d) := by unfold sSign; rw [if_pos (by omega), if_neg c]
    rw [es] at o' ⊢
    refine H F' h' n' R' _ _ o' f (fun j hj => ?_) (Or.inr (by dsimp only; omega))
    show yu1 (yu1 r (22 + a.toNat) b) (34 + a.toNat) d j = r j
    unfold yu1; rw [if_neg (by omega), if_neg (by omega)]
theorem k68b (o : Oy F h r n R) {a b : Int} (ha : 0 ≤ a ∧ a ≤ 11) (hb : 1 ≤ b ∧ b ≤ 12) {P : Int → (Nat → Nat → Int) → (Nat → Nat → Option Nat) → Prop} (H1 : ∀ F' h' n' R' r', Oy F' h' r' n' R' → (∀ p, p = 0 ∨ 147 ≤ p → F' p = F p) → r' 0 = r 0 + 1 → (∀ j, 1 ≤ j → j < 6 → r' j = r j) → P (r 0) F' h') (H2 : ∀ F' h' n' R', Oy F' h' r n' R' → (∀ p, p = 0 ∨ 147 ≤ p → F' p = F p) → P (-3) F' h') : C68_0 a b (Wd S L F G h) (fun v w1 => ∃ (x : Int) (F' : Nat → Nat → Int) (h' : Nat → Nat → Option Nat), v = some (vi x) ∧ w1 = (Wd S L F' G h') ∧ RfH h' ∧ P x F' h') := by
  refine k68 o (by omega) (by omega) (fun F' h' n' R' o' f => ?_)
  by_cases c : r 0 < 12 ∧ ymk (ytot r + b) (r 2) (r 3) ≤ 100
  · have es : sSound r a b = (r 0, yu1 (yu1 (yu1 r (46 + (r 0).toNat) a) (58 + (r 0).toNat) b) 0 (r 0 + 1)) := by unfold sSound; rw [if_pos (by omega), if_pos c]
    rw [es] at o' ⊢
    refine H1 F' h' n' R' _ o' f ?_ (fun j h1 hj => ?_)
    · dsimp only; unfold yu1; rw [if_pos rfl]
    · dsimp only; unfold yu1; rw [if_neg (by omega), if_neg (by omega), if_neg (by omega)]
  · have es : sSound r a b = (-3, r) := by unfold sSound; rw [if_pos (by omega), if_neg c]
    rw [es] at o' ⊢
    exact H2 F' h' n' R' o' f
theorem k70b (o : Oy F h r n R) {a b : Int} (ha : 1 ≤ a ∧ a ≤ 12) (hb : 1 ≤ b ∧ b ≤ 2) (h2 : r 2 = 4) (h3 : r 3 = 1) {P : Int → (Nat → Nat → Int) → (Nat → Nat → Option Nat) → Prop} (H : ∀ F' h' n' R' r' x, Oy F' h' r' n' R' → (∀ p, p = 0 ∨ 147 ≤ p → F' p = F p) → r' 1 = r 1 → r' 4 = r 4 → r' 5 = r 5 → (x = 41 ∨ x = -2 ∨ x = -3) → P x F' h') : C70_0 a b (Wd S L F G h) (fun v w1 => ∃ (x : Int) (F' : Nat → Nat → Int) (h' : Nat → Nat → Option Nat), v = some (vi x) ∧ w1 = (Wd S L F' G h') ∧ RfH h' ∧ P x F' h') := by
  refine k70 o (by omega) (by omega) (fun F' h' n' R' o' f => ?_)
  by_cases c : r 2 = a ∧ r 3 = b
  · have es : sFrame r a b = (-2, r) := by unfold sFrame; rw [if_pos (by omega), if_pos c]
    rw [es] at o' ⊢
    exact H F' h' n' R' r (-2) o' f rfl rfl rfl (Or.inr (Or.inl rfl))
  · by_cases d : ymk (ytot r) a b ≤ 100
    · have es : sFrame r a b = (10 * r 2 + r 3, yu1 (yu1 r 2 a) 3 b) := by unfold sFrame; rw [if_pos (by omega), if_neg c, if_pos d]
      rw [es] at o' ⊢
      exact H F' h' n' R' _ _ o' f rfl rfl rfl (Or.inl (by dsimp only; omega))
    · have es : sFrame r a b = (-3, r) := by unfold sFrame; rw [if_pos (by omega), if_neg c, if_neg d]
      rw [es] at o' ⊢
      exact H F' h' n' R' r (-3) o' f rfl rfl rfl (Or.inr (Or.inr rfl))
theorem l115_353 (hL : (L : Int) ≤ 3072) (K : ∀ F h r n R, Oy F h r n R → F 284 1 = 0 → F 0 = F0 0 → r 4 = 1 → r 5 = 1 → Q (some (vi 1)) (Wd S L F G h)) : ∀ (m : Nat) (x5 : Int) (F : Nat → Nat → Int) (h : Nat → Nat → Option Nat) (r : Row) (n : Nat) (R : Nat → Row), x5 + m = 5 → 0 ≤ x5 → Oy F h r n R → F 284 1 = 0 → F 0 = F0 0 → r 4 = 1 → r 5 = 1 → r 1 ≤ x5 → C115_353 x5 (Wd S L F G h) Q
  | 0, x5, F, h, r, n, R, e, e', o, et, e0, r4, r5, r1 => by
    refine T115_353 o.hh ⟨by omega, ?_⟩
    rw [if_pos (by omega)]
    exact K F h r n R o et e0 r4 r5
  | m + 1, x5, F, h, r, n, R, e, e', o, et, e0, r4, r5, r1 => by
    refine T115_353 o.hh ⟨by omega, ?_⟩
    rw [if_neg (by omega)]
    refine k112 o (by omega) hL (fun a a0 a1 => ?_)
    refine k112 o (by omega) hL (fun b b0 b1 => ?_)
    refine k116 o ⟨a0, a1⟩ ⟨b0, b1⟩ (by omega) et (fun F' h' r' n' R' o' e1 e0' wk => ⟨rfl, ?_⟩)
    exact l115_353 hL K m (x5 + 1) F' h' r' n' R' (by omega) (by omega) o' e1 (e0'.trans e0) (by rw [wk.1]; exact r4) (by rw [wk.2.1]; exact r5) (by have := wk.2.2; omega)
theorem l115_159 (hL : (L : Int) ≤ 3072) (K : ∀ F h r n R, Oy F h r n R → F 284 1 = 0 → F 0 = F0 0 → r 4 = 1 → r 5 = 1 → Q (some (vi 1)) (Wd S L F G h)) : ∀ (m : Nat) (x3 x4 : Int) (F : Nat → Nat → Int) (h : Nat → Nat → Option Nat) (r : Row) (n : Nat) (R : Nat → Row), x4 + m = x3 → 0 ≤ x4 → x3 ≤ 12 → Oy F h r n R → F 284 1 = 0 → F 0 = F0 0 → r 1 = 0 → r 2 = 4 → r 3 = 1 → r 4 = 1 → r 5 = 1 → C115_159 x3 x4 (Wd S L F G h) Q
  | 0, x3, x4, F, h, r, n, R, e, e', e'', o, et, e0, r1, r2, r3, r4, r5 => by
    refine T115_159 o.hh ⟨by omega, by omega, ?_⟩
    rw [if_pos (by omega)]
    refine k112 o (by omega) hL (fun a a0 a1 => ⟨⟨a0, a1⟩, ?_⟩)
    refine k112 o (by omega) hL (fun b b0 b1 => ⟨⟨b0, b1⟩, ⟨by omega, by omega⟩, ?_⟩)
    refine k70b o (by omega) (by omega) r2 r3 (fun F' h' n' R' r' x o' f s1 s4 s5 hx => ⟨by omega, ?_⟩)
    have fin : C115_353 0 (Wd S L F' G h') Q := l115_353 hL K 5 0 F' h' r' n' R' (by decide) (by decide) o' (by rw [f 284 (by omega)]; exact et) (by rw [f 0 (by omega)]; exact e0) (by rw [s4]; exact r4) (by rw [s5]; exact r5) (by omega)
    split
    · exact fin
    · split
      · exact fin
      · exact ⟨by omega, fin⟩
  | m + 1, x3, x4, F, h, r, n, R, e, e', e'', o, et, e0, r1, r2, r3, r4, r5 => by
    have v := o.v
    have hn := v.n
    have ih := fun (F' : Nat → Nat → Int) (h' : Nat → Nat → Option Nat) (r' : Row) (n' : Nat) (R' : Nat → Row) (o' : Oy F' h' r' n' R') (a : F' 284 1 = 0) (b : F' 0 = F0 0) (c : ∀ j, 1 ≤ j → j < 6 → r' j = r j) => l115_159 hL K m x3 (x4 + 1) F' h' r' n' R' (by omega) (by omega) e'' o' a b (by rw [c 1 (by decide) (by decide)]; exact r1) (by rw [c 2 (by decide) (by decide)]; exact r2) (by rw [c 3 (by decide) (by decide)]; exact r3) (by rw [c 4 (by decide) (by decide)]; exact r4) (by rw [c 5 (by decide) (by decide)]; exact r5)
    refine T115_159 o.hh ⟨by omega, by omega, ?_⟩
    rw [if_neg (by omega)]
    refine ⟨⟨by omega, by omega⟩, ?_⟩
    refine k112 o (by omega) hL (fun u u0 u1 => ⟨⟨u0, u1, by omega, by omega⟩, ?_⟩)
    have hq : 0 ≤ u / (1 + (148 * (x4 % 3))) ∧ u / (1 + (148 * (x4 % 3))) ≤ 2147483647 := ⟨Int.ediv_nonneg u0 (by omega), Int.le_trans (Int.ediv_le_self _ u0) u1⟩
    generalize u / (1 + (148 * (x4 % 3))) = q at *
    refine k75 o (by decide) (fun F1 o1 b1 => ?_)
    have rc : sCount r (n : Int) 0 = r 0 := rfl
    rw [rc]
    refine ⟨hq, by omega, ?_⟩
    have go : ∀ (F2 : Nat → Nat → Int) (h2 : Nat → Nat → Option Nat) (n2 : Nat) (R2 : Nat → Row) (r2 : Row), Oy F2 h2 r2 n2 R2 → (∀ p, p = 0 ∨ 147 ≤ p → F2 p = F1 p) → r2 0 = r 0 + 1 → (∀ j, 1 ≤ j → j < 6 → r2 j = r j) → ∀ F3, Oy F3 h2 r2 n2 R2 → Ob F2 F3 → C115_159 x3 (x4 + 1) (Wd S L F3 G h2) Q := fun F2 h2 n2 R2 r2 o2 f2 _ c F3 o3 b3 =>
      ih F3 h2 r2 n2 R2 o3 (by rw [b3 284 (by omega), f2 284 (by omega), b1 284 (by omega)]; exact et) (by rw [b3 0 (by omega), f2 0 (by omega), b1 0 (by omega)]; exact e0) c
    split
    · refine ⟨⟨by omega, by omega⟩, ?_⟩
      refine k68b o1 (by omega) (by omega) (fun F2 h2 n2 R2 r2 o2 f2 z c => ⟨by omega, by omega, ?_⟩) (fun F2 h2 n2 R2 o2 f2 => ⟨by decide, by omega, ?_⟩)
      · rw [if_pos rfl]
        refine k75 o2 (by decide) (fun F3 o3 b3 => ?_)
        have rc2 : sCount r2 (n2 : Int) 0 = r2 0 := rfl
        rw [rc2]
        exact ⟨by omega, by omega, z, go F2 h2 n2 R2 r2 o2 f2 z c F3 o3 b3⟩
      · rw [if_neg (by omega)]
        refine ⟨rfl, ?_⟩
        refine k75 o2 (by decide) (fun F3 o3 b3 => ?_)
        have rc2 : sCount r (n2 : Int) 0 = r 0 := rfl
        rw [rc2]
        exact ⟨by omega, rfl, ih F3 h2 r n2 R2 o3 (by rw [b3 284 (by omega), f2 284 (by omega), b1 284 (by omega)]; exact et) (by rw [b3 0 (by omega), f2 0 (by omega), b1 0 (by omega)]; exact e0) (fun _ _ _ => rfl)⟩
    · refine ⟨⟨by omega, by omega⟩, ?_⟩
      refine k68b o1 (by omega) (by omega) (fun F2 h2 n2 R2 r2 o2 f2 z c => ⟨by omega, by omega, ?_⟩) (fun F2 h2 n2 R2 o2 f2 => ⟨by decide, by omega, ?_⟩)
      · rw [if_pos rfl]
        refine k75 o2 (by decide) (fun F3 o3 b3 => ?_)
        have rc2 : sCount r2 (n2 : Int) 0 = r2 0 := rfl
        rw [rc2]
        exact ⟨by omega, by omega, z, go F2 h2 n2 R2 r2 o2 f2 z c F3 o3 b3⟩
      · rw [if_neg (by omega)]
        refine ⟨rfl, ?_⟩
        refine k75 o2 (by decide) (fun F3 o3 b3 => ?_)
        have rc2 : sCount r (n2 : Int) 0 = r 0 := rfl
        rw [rc2]
        exact ⟨by omega, rfl, ih F3 h2 r n2 R2 o3 (by rw [b3 284 (by omega), f2 284 (by omega), b1 284 (by omega)]; exact et) (by rw [b3 0 (by omega), f2 0 (by omega), b1 0 (by omega)]; exact e0) (fun _ _ _ => rfl)⟩
theorem l115_4 (hL : (L : Int) ≤ 3072) (K : ∀ F h r n R, Oy F h r n R → F 284 1 = 0 → F 0 = F0 0 → r 4 = 1 → r 5 = 1 → Q (some (vi 1)) (Wd S L F G h)) : ∀ (m : Nat) (x3 : Int) (F : Nat → Nat → Int) (h : Nat → Nat → Option Nat) (r : Row) (n : Nat) (R : Nat → Row), x3 + m = 4 → 0 ≤ x3 → Oy F h r n R → F 284 1 = 0 → F 0 = F0 0 → r 1 = 0 → r 2 = 4 → r 3 = 1 → r 4 = 1 → r 5 = 1 → C115_4 x3 (Wd S L F G h) Q
  | 0, x3, F, h, r, n, R, e, e', o, et, e0, r1, r2, r3, r4, r5 => by
    refine T115_4 o.hh ⟨by omega, ?_⟩
    rw [if_pos (by omega)]
    refine k112 o (by omega) hL (fun a a0 a1 => ⟨⟨a0, a1⟩, ?_⟩)
    exact l115_159 hL K (1 + a % 12).toNat _ 0 F h r n R (by omega) (by decide) (by omega) o et e0 r1 r2 r3 r4 r5
  | m + 1, x3, F, h, r, n, R, e, e', o, et, e0, r1, r2, r3, r4, r5 => by
    refine T115_4 o.hh ⟨by omega, ?_⟩
    rw [if_neg (by omega)]
    have ih := fun (F' : Nat → Nat → Int) (h' : Nat → Nat → Option Nat) (r' : Row) (n' : Nat) (R' : Nat → Row) (o' : Oy F' h' r' n' R') (a : F' 284 1 = 0) (b : F' 0 = F0 0) (c : ∀ j, j < 6 → r' j = r j) => l115_4 hL K m (x3 + 1) F' h' r' n' R' (by omega) (by omega) o' a b (by rw [c 1 (by decide)]; exact r1) (by rw [c 2 (by decide)]; exact r2) (by rw [c 3 (by decide)]; exact r3) (by rw [c 4 (by decide)]; exact r4) (by rw [c 5 (by decide)]; exact r5)
    refine k112 o (by omega) hL (fun a a0 a1 => ⟨⟨a0, a1⟩, ⟨by omega, by omega⟩, ⟨by omega, by omega⟩, ?_⟩)
    refine k66b o (by omega) (by omega) (by omega) (fun F1 h1 n1 R1 q1 x o1 f1 c1 hx => ⟨by omega, ?_⟩)
    have go : C115_73 x3 (Wd S L F1 G h1) Q := by
      refine T115_73 o1.hh ?_
      refine k112 o1 (by omega) hL (fun b b0 b1 => ⟨⟨b0, b1⟩, ⟨by omega, by omega⟩, ⟨by omega, by omega⟩, ?_⟩)
      refine k67b o1 (by omega) (by omega) (by omega) (fun F2 h2 n2 R2 q2 y o2 f2 c2 hy => ⟨by omega, ?_⟩)
      have fin := ih F2 h2 q2 n2 R2 o2 (by rw [f2 284 (by omega), f1 284 (by omega)]; exact et) (by rw [f2 0 (by omega), f1 0 (by omega)]; exact e0) (fun j hj => by rw [c2 j hj, c1 j hj])
      split
      · exact fin
      · exact ⟨by omega, by omega, fin⟩
    split
    · exact go
    · exact ⟨by omega, by omega, go⟩
theorem k115 (o : Oy F h r n R) (hL : (L : Int) ≤ 3072) (et : F 284 1 = 0) (r1 : r 1 = 0) (r2 : r 2 = 4) (r3 : r 3 = 1) (r4 : r 4 = 1) (r5 : r 5 = 1) {P : Int → (Nat → Nat → Int) → (Nat → Nat → Option Nat) → Prop} (H : ∀ F' h' r' n' R', Oy F' h' r' n' R' → F' 284 1 = 0 → F' 0 = F 0 → r' 4 = 1 → r' 5 = 1 → P 1 F' h') : C115_0 (Wd S L F G h) (fun v w1 => ∃ (z : Int) (F' : Nat → Nat → Int) (h' : Nat → Nat → Option Nat), v = some (vi z) ∧ w1 = (Wd S L F' G h') ∧ RfH h' ∧ P z F' h') := by
  refine T115_0 o.hh ?_
  exact l115_4 (F0 := F) hL (fun F' h' r' n' R' o' a b c d => ⟨_, F', h', rfl, rfl, o'.hh, H F' h' r' n' R' o' a b c d⟩) 4 0 F h r n R (by decide) (by decide) o et rfl r1 r2 r3 r4 r5
end BUILDSL
