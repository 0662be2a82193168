/-! read: the smallest steps -/
def psk (tp : Nat → Int) : Nat → Nat → Nat
  | 0, p => p
  | m + 1, p => if tp p = 32 then psk tp m (p + 1) else p
def ysk (tp : Nat → Int) (N p : Nat) : Nat := psk tp (N - p) p
theorem psk_bd {tp : Nat → Int} : ∀ m p, p ≤ psk tp m p ∧ psk tp m p ≤ p + m
  | 0, p => ⟨Nat.le_refl _, Nat.le_refl _⟩
  | m + 1, p => by
    have h := psk_bd (tp := tp) m (p + 1)
    show p ≤ (if tp p = 32 then psk tp m (p + 1) else p) ∧ (if tp p = 32 then psk tp m (p + 1) else p) ≤ p + (m + 1)
    split <;> omega
theorem psk_end {tp : Nat → Int} : ∀ m p, psk tp m p < p + m → tp (psk tp m p) ≠ 32
  | 0, p, h => by
    have : psk tp 0 p = p := rfl
    omega
  | m + 1, p, h => by
    have e : psk tp (m + 1) p = (if tp p = 32 then psk tp m (p + 1) else p) := rfl
    rw [e] at h ⊢
    by_cases c : tp p = 32
    · rw [if_pos c] at h ⊢
      exact psk_end m (p + 1) (by omega)
    · rw [if_neg c]; exact c
theorem ysk_bd {tp : Nat → Int} {N p : Nat} (h : p ≤ N) : p ≤ ysk tp N p ∧ ysk tp N p ≤ N := by
  have := psk_bd (tp := tp) (N - p) p
  unfold ysk
  omega
theorem ysk_end {tp : Nat → Int} {N p : Nat} (h : p ≤ N) (hl : ysk tp N p < N) : tp (ysk tp N p) ≠ 32 := by
  unfold ysk at hl ⊢
  exact psk_end _ _ (by omega)
theorem ysk_stop {tp : Nat → Int} {N p : Nat} (h : p < N → tp p ≠ 32) : ysk tp N p = p := by
  unfold ysk
  cases e : N - p with
  | zero => rfl
  | succ m =>
    show (if tp p = 32 then psk tp m (p + 1) else p) = p
    rw [if_neg (h (by omega))]
def yok (tp : Nat → Int) (N : Nat) (a b : Int) (q : Nat) : Prop := q < N ∧ a ≤ tp q ∧ tp q ≤ b
def TA (tp : Nat → Int) (N : Nat) (F : Nat → Nat → Int) : Prop := F 284 1 = (N : Int) ∧ N ≤ 90 ∧ ∀ k, k < N → F 285 k = tp k ∧ 32 ≤ tp k ∧ tp k ≤ 126
def flt (f : Int) (q : Int) : Int := if 0 ≤ f then f else q
def FP (F F' : Nat → Nat → Int) : Prop := (∀ k, k ≠ 2 → k ≠ 3 → F' 284 k = F 284 k) ∧ (∀ q, q ≠ 284 → F' q = F q)
theorem FP.rfl' {F : Nat → Nat → Int} : FP F F := ⟨fun _ _ _ => rfl, fun _ _ => rfl⟩
theorem FP.trans {A B C : Nat → Nat → Int} (h1 : FP A B) (h2 : FP B C) : FP A C := ⟨fun k a b => by rw [h2.1 k a b, h1.1 k a b], fun q a => by rw [h2.2 q a, h1.2 q a]⟩
theorem TA.cong {tp : Nat → Int} {N : Nat} {F F' : Nat → Nat → Int} (t : TA tp N F) (e : F' 284 1 = F 284 1) (e2 : F' 285 = F 285) : TA tp N F' := ⟨by rw [e]; exact t.1, t.2.1, fun k hk => by rw [e2]; exact t.2.2 k hk⟩
theorem TA.fp {tp : Nat → Int} {N : Nat} {F F' : Nat → Nat → Int} (t : TA tp N F) (e : FP F F') : TA tp N F' := t.cong (e.1 1 (by decide) (by decide)) (e.2 285 (by decide))
theorem FP.up2 {F : Nat → Nat → Int} {k : Nat} {v : Int} (hk : k = 2 ∨ k = 3) : FP F (am_up F 284 k v) := ⟨fun j a b => by rw [up_at, if_neg (by omega)], fun q hq => up_out hq⟩
section SCAN
variable {S L : Nat} {F G : Nat → Nat → Int} {h : Nat → Nat → Option Nat} {Q : Option V2 → W2 → Prop} {tp : Nat → Int} {N : Nat}
theorem L62 (hh : RfH h) : ∀ (m p : Nat) (F : Nat → Nat → Int), p + m = N → TA tp N F → F 284 2 = (p : Int) → (∀ F' : Nat → Nat → Int, F' 284 2 = ((psk tp m p : Nat) : Int) → F' 284 3 = F 284 3 → FP F F' → Q none (Wd S L F' G h)) → C62_0 (Wd S L F G h) Q
  | 0, p, F, e, t, ep, H => by
    have t1 := t.1
    have t2 := t.2.1
    refine T62_0 hh ⟨by omega, by omega, ?_⟩
    rw [if_pos (by omega)]
    exact H F ep rfl FP.rfl'
  | m + 1, p, F, e, t, ep, H => by
    have t1 := t.1
    have t2 := t.2.1
    obtain ⟨t3, t4, t5⟩ := t.2.2 p (by omega)
    have e2 : (F 284 2).toNat = p := by omega
    have es : psk tp (m + 1) p = (if tp p = 32 then psk tp m (p + 1) else p) := rfl
    refine T62_0 hh ⟨by omega, by omega, ?_⟩
    rw [if_neg (by omega), e2, t3]
    refine ⟨by omega, by omega, ?_⟩
    rw [es] at H
    by_cases c : tp p = 32
    · rw [if_pos c] at H ⊢
      have fp : FP F (am_up F 284 2 (F 284 2 + 1)) := FP.up2 (Or.inl rfl)
      refine L62 hh m (p + 1) _ (by omega) (t.fp fp) (by rw [up_at, if_pos rfl]; omega) (fun F' a b c => H F' a (by rw [b, up_at, if_neg (by decide)]) (fp.trans c))
    · rw [if_neg c] at H ⊢
      exact H F ep rfl FP.rfl'
theorem K62 (hh : RfH h) {p : Nat} (hp : p ≤ N) (t : TA tp N F) (ep : F 284 2 = (p : Int)) (H : ∀ F' : Nat → Nat → Int, TA tp N F' → F' 284 2 = ((ysk tp N p : Nat) : Int) → F' 284 3 = F 284 3 → FP F F' → Q none (Wd S L F' G h)) : C62_0 (Wd S L F G h) Q :=
  L62 hh (N - p) p F (by omega) t ep (fun F' a b c => H F' (t.fp c) a b c)
theorem K63 (hh : RfH h) {p : Nat} (hp : p ≤ N) (t : TA tp N F) (ep : F 284 2 = (p : Int)) {a b : Int} (ra : R32 a) (rb : R32 b) (H1 : yok tp N a b p → Q (some (vi 1)) (Wd S L F G h)) (H0 : ¬ yok tp N a b p → Q (some (vi 0)) (Wd S L F G h)) : C63_0 a b (Wd S L F G h) Q := by
  have t1 := t.1
  have t2 := t.2.1
  unfold yok at H1 H0
  refine T63_0 hh ⟨by omega, by omega, ?_⟩
  by_cases c : F 284 1 ≤ F 284 2
  · rw [if_pos c]
    exact H0 (by omega)
  obtain ⟨t3, t4, t5⟩ := t.2.2 p (by omega)
  have e2 : (F 284 2).toNat = p := by omega
  rw [if_neg c, e2, t3]
  refine ⟨by omega, by omega, ra, ?_⟩
  by_cases c1 : tp p < a
  · rw [if_pos c1]
    exact H0 (by omega)
  rw [if_neg c1]
  refine ⟨rb, ?_⟩
  by_cases c2 : b < tp p
  · rw [if_pos c2]
    exact H0 (by omega)
  · rw [if_neg c2]
    exact H1 (by omega)
theorem K64 (hh : RfH h) {q : Int} (rf : R32 (F 284 3)) (H : ∀ F' : Nat → Nat → Int, F' 284 2 = F 284 2 → F' 284 3 = flt (F 284 3) q → FP F F' → Q none (Wd S L F' G h)) : C64_0 q (Wd S L F G h) Q := by
  refine T64_0 hh ⟨rf, ?_⟩
  unfold flt at H
  by_cases c : 0 ≤ F 284 3
  · rw [if_pos c] at H ⊢
    exact H F rfl rfl FP.rfl'
  · rw [if_neg c] at H ⊢
    exact H _ (by rw [up_at, if_neg (by decide)]) (by rw [up_at, if_pos rfl]) (FP.up2 (Or.inr rfl))
/-- a sign of the text, or a fault -/
theorem K59 (hh : RfH h) {p : Nat} (hp : p ≤ N) (t : TA tp N F) (ep : F 284 2 = (p : Int)) (rf : R32 (F 284 3)) {c : Int} (rc : R32 c) (H : ∀ (F' : Nat → Nat → Int) (p' : Nat), TA tp N F' → (yok tp N c c (ysk tp N p) → p' = ysk tp N p + 1 ∧ F' 284 3 = F 284 3) → (¬ yok tp N c c (ysk tp N p) → p' = ysk tp N p ∧ F' 284 3 = flt (F 284 3) (ysk tp N p : Nat)) → F' 284 2 = (p' : Int) → p' ≤ N → FP F F' → Q none (Wd S L F' G h)) : C59_0 c (Wd S L F G h) Q := by
  have hb := ysk_bd (tp := tp) hp
  refine T59_0 hh (K62 hh hp t ep (fun F1 t1 e1 f1 a1 => ⟨_, rfl, rfl, ?_⟩))
  refine K63 hh hb.2 t1 e1 rc rc (fun ok => ⟨_, rfl, rfl, by decide, ?_⟩) (fun no => ⟨_, rfl, rfl, by decide, ?_⟩)
  · rw [if_neg (by decide)]
    have fp : FP F1 (am_up F1 284 2 (F1 284 2 + 1)) := FP.up2 (Or.inl rfl)
    have hl := ok.1
    exact H _ (ysk tp N p + 1) (t1.fp fp) (fun _ => ⟨rfl, by rw [up_at, if_neg (by decide), f1]⟩) (fun no => absurd ok no) (by rw [up_at, if_pos rfl]; omega) (by omega) (a1.trans fp)
  · rw [if_pos rfl]
    refine K64 hh (by rw [f1]; exact rf) (fun F2 b1 b2 b3 => ⟨_, rfl, rfl, ?_⟩)
    exact H F2 (ysk tp N p) (t1.fp b3) (fun ok => absurd ok no) (fun _ => ⟨rfl, by rw [b2, f1, e1]⟩) (by rw [b1]; exact e1) hb.2 (a1.trans b3)
/-- a digit of the text between a and b, or a fault -/
theorem K60 (hh : RfH h) {p : Nat} (hp : p ≤ N) (t : TA tp N F) (ep : F 284 2 = (p : Int)) (rf : R32 (F 284 3)) {a b : Int} (ra : 0 ≤ a ∧ a ≤ 9) (rb : 0 ≤ b ∧ b ≤ 9) (H : ∀ (F' : Nat → Nat → Int) (p' : Nat) (v : Int), TA tp N F' → (yok tp N (48 + a) (48 + b) (ysk tp N p) → p' = ysk tp N p + 1 ∧ F' 284 3 = F 284 3 ∧ v = tp (ysk tp N p) - 48) → (¬ yok tp N (48 + a) (48 + b) (ysk tp N p) → p' = ysk tp N p ∧ F' 284 3 = flt (F 284 3) (ysk tp N p : Nat) ∧ v = a) → F' 284 2 = (p' : Int) → p' ≤ N → FP F F' → Q (some (vi v)) (Wd S L F' G h)) : C60_0 a b (Wd S L F G h) Q := by
  have hb := ysk_bd (tp := tp) hp
  refine T60_0 hh (K62 hh hp t ep (fun F1 t1 e1 f1 a1 => ⟨_, rfl, rfl, ?_⟩))
  refine K63 hh hb.2 t1 e1 (by omega) (by omega) (fun ok => ⟨_, rfl, rfl, by decide, ?_⟩) (fun no => ⟨_, rfl, rfl, by decide, ?_⟩)
  · rw [if_neg (by decide)]
    have fp : FP F1 (am_up F1 284 2 (F1 284 2 + 1)) := FP.up2 (Or.inl rfl)
    have hl := ok.1
    have t2 := t.2.1
    have e2 : (F1 284 2 + 1 - 1).toNat = ysk tp N p := by omega
    refine ⟨by omega, ?_⟩
    rw [e2, (t1.2.2 _ hl).1]
    exact H _ (ysk tp N p + 1) _ (t1.fp fp) (fun _ => ⟨rfl, by rw [up_at, if_neg (by decide), f1], rfl⟩) (fun no => absurd ok no) (by rw [up_at, if_pos rfl]; omega) (by omega) (a1.trans fp)
  · rw [if_pos rfl]
    refine K64 hh (by rw [f1]; exact rf) (fun F2 b1 b2 b3 => ⟨_, rfl, rfl, ?_⟩)
    exact H F2 (ysk tp N p) _ (t1.fp b3) (fun ok => absurd ok no) (fun _ => ⟨rfl, by rw [b2, f1, e1], rfl⟩) (by rw [b1]; exact e1) hb.2 (a1.trans b3)
/-- a number of the text, 1 to 12, or a fault -/
def ynv (tp : Nat → Int) (N q : Nat) : Int := if q + 1 < N ∧ 48 ≤ tp (q + 1) ∧ tp (q + 1) ≤ 57 then 10 * (tp q - 48) + tp (q + 1) - 48 else tp q - 48
def ynp (tp : Nat → Int) (N q : Nat) : Nat := if q + 1 < N ∧ 48 ≤ tp (q + 1) ∧ tp (q + 1) ≤ 57 then q + 2 else q + 1
def ynk (tp : Nat → Int) (N q : Nat) : Prop := yok tp N 48 57 q ∧ 1 ≤ ynv tp N q ∧ ynv tp N q ≤ 12
theorem flt_flt (f : Int) {q : Int} (hq : 0 ≤ q) (x : Int) : flt (flt f q) x = flt f q := by
  unfold flt
  by_cases c : 0 ≤ f
  · rw [if_pos c, if_pos c]
  · rw [if_neg c, if_pos hq]
theorem K61 (hh : RfH h) {p : Nat} (hp : p ≤ N) (t : TA tp N F) (ep : F 284 2 = (p : Int)) (rf : -1 ≤ F 284 3 ∧ F 284 3 ≤ 100) (H : ∀ (F' : Nat → Nat → Int) (p' : Nat) (v : Int), TA tp N F' → (ynk tp N (ysk tp N p) → p' = ynp tp N (ysk tp N p) ∧ F' 284 3 = F 284 3 ∧ v = ynv tp N (ysk tp N p)) → (¬ ynk tp N (ysk tp N p) → F' 284 3 = flt (F 284 3) (ysk tp N p : Nat)) → F' 284 2 = (p' : Int) → p' ≤ N → FP F F' → Q (some (vi v)) (Wd S L F' G h)) : C61_0 (Wd S L F G h) Q := by
  have hb := ysk_bd (tp := tp) hp
  have hN := t.2.1
  refine T61_0 hh (K60 hh hp t ep (by omega) (by decide) (by decide) (fun F1 p1 v1 t1 ok no e1 hp1 a1 => ⟨_, _, rfl, rfl, ?_⟩))
  by_cases c : yok tp N 48 57 (ysk tp N p)
  · obtain ⟨o1, o2, o3⟩ := ok c
    have c' := c
    obtain ⟨c1, c2, c3⟩ := c'
    subst o1
    refine K63 hh hp1 t1 e1 (by decide) (by decide) (fun ok2 => ⟨_, rfl, rfl, by decide, ?_⟩) (fun no2 => ⟨_, rfl, rfl, by decide, ?_⟩)
    · rw [if_neg (by decide)]
      have ok3 := ok2
      obtain ⟨d1, d2, d3⟩ := ok3
      have fp : FP F1 (am_up F1 284 2 (F1 284 2 + 1)) := FP.up2 (Or.inl rfl)
      have e2 : (F1 284 2).toNat = ysk tp N p + 1 := by omega
      have ev : ynv tp N (ysk tp N p) = 10 * (tp (ysk tp N p) - 48) + tp (ysk tp N p + 1) - 48 := by unfold ynv; rw [if_pos ⟨d1, d2, d3⟩]
      have enp : ynp tp N (ysk tp N p) = ysk tp N p + 2 := by unfold ynp; rw [if_pos ⟨d1, d2, d3⟩]
      have u2 : am_up F1 284 2 (F1 284 2 + 1) 284 2 = ((ysk tp N p + 2 : Nat) : Int) := by rw [up_at, if_pos rfl]; omega
      have u3 : am_up F1 284 2 (F1 284 2 + 1) 284 3 = F 284 3 := by rw [up_at, if_neg (by decide), o2]
      rw [e2, (t1.2.2 _ d1).1, o3]
      refine ⟨by omega, by omega, ?_⟩
      by_cases g1 : 10 * (tp (ysk tp N p) - 48) + tp (ysk tp N p + 1) - 48 < 1
      · rw [if_pos g1]
        refine K64 hh (by rw [u3]; omega) (fun F2 b1 b2 b3 => ⟨_, rfl, rfl, ?_⟩)
        refine H F2 (ysk tp N p + 2) _ ((t1.fp fp).fp b3) (fun k => absurd k.2 (by omega)) (fun _ => by rw [b2, u3]; congr 1; omega) (by rw [b1]; exact u2) (by omega) (a1.trans (fp.trans b3))
      rw [if_neg g1]
      by_cases g2 : 12 < 10 * (tp (ysk tp N p) - 48) + tp (ysk tp N p + 1) - 48
      · rw [if_pos g2]
        refine K64 hh (by rw [u3]; omega) (fun F2 b1 b2 b3 => ⟨_, rfl, rfl, ?_⟩)
        refine H F2 (ysk tp N p + 2) _ ((t1.fp fp).fp b3) (fun k => absurd k.2 (by omega)) (fun _ => by rw [b2, u3]; congr 1; omega) (by rw [b1]; exact u2) (by omega) (a1.trans (fp.trans b3))
      rw [if_neg g2]
      exact H _ (ysk tp N p + 2) _ (t1.fp fp) (fun _ => ⟨enp.symm, u3, ev.symm⟩) (fun no => absurd ⟨c, by omega, by omega⟩ no) u2 (by omega) (a1.trans fp)
    · rw [if_pos rfl]
      have hno : ¬ (ysk tp N p + 1 < N ∧ 48 ≤ tp (ysk tp N p + 1) ∧ tp (ysk tp N p + 1) ≤ 57) := fun q => no2 q
      have ev : ynv tp N (ysk tp N p) = tp (ysk tp N p) - 48 := by unfold ynv; rw [if_neg hno]
      have enp : ynp tp N (ysk tp N p) = ysk tp N p + 1 := by unfold ynp; rw [if_neg hno]
      rw [o3]
      refine ⟨by omega, ?_⟩
      by_cases g1 : tp (ysk tp N p) - 48 < 1
      · rw [if_pos g1]
        refine K64 hh (by rw [o2]; omega) (fun F2 b1 b2 b3 => ⟨_, rfl, rfl, ?_⟩)
        refine H F2 (ysk tp N p + 1) _ (t1.fp b3) (fun k => absurd k.2 (by omega)) (fun _ => by rw [b2, o2]; congr 1; omega) (by rw [b1]; exact e1) (by omega) (a1.trans b3)
      rw [if_neg g1]
      by_cases g2 : 12 < tp (ysk tp N p) - 48
      · rw [if_pos g2]
        refine K64 hh (by rw [o2]; omega) (fun F2 b1 b2 b3 => ⟨_, rfl, rfl, ?_⟩)
        refine H F2 (ysk tp N p + 1) _ (t1.fp b3) (fun k => absurd k.2 (by omega)) (fun _ => by rw [b2, o2]; congr 1; omega) (by rw [b1]; exact e1) (by omega) (a1.trans b3)
      rw [if_neg g2]
      exact H _ (ysk tp N p + 1) _ t1 (fun _ => ⟨enp.symm, o2, ev.symm⟩) (fun no => absurd ⟨c, by omega, by omega⟩ no) e1 (by omega) a1
  · obtain ⟨o1, o2, o3⟩ := no c
    subst o1
    have hf : -1 ≤ F1 284 3 ∧ F1 284 3 ≤ 100 := by
      rw [o2]
      unfold flt
      split <;> omega
    refine K63 hh hp1 t1 e1 (by decide) (by decide) (fun ok2 => absurd ok2 c) (fun no2 => ⟨_, rfl, rfl, by decide, ?_⟩)
    rw [if_pos rfl, o3]
    refine ⟨by decide, ?_⟩
    rw [if_pos (by decide)]
    refine K64 hh (by omega) (fun F2 b1 b2 b3 => ⟨_, rfl, rfl, ?_⟩)
    refine H F2 (ysk tp N p) _ (t1.fp b3) (fun k => absurd k.1 c) (fun _ => by rw [b2, o2, flt_flt _ (by omega)]) (by rw [b1]; exact e1) (by omega) (a1.trans b3)
end SCAN
