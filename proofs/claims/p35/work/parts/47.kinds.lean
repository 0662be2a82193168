/-! read: which line it is -/
def pke (tp : Nat → Int) (N : Nat) : Nat → Nat → Nat
  | 0, p => p
  | m + 1, p => if p < N ∧ 97 ≤ tp p ∧ tp p ≤ 122 then pke tp N m (p + 1) else p
theorem pke_bd {tp : Nat → Int} {N : Nat} : ∀ m p, p ≤ N → p ≤ pke tp N m p ∧ pke tp N m p ≤ N ∧ ∀ k, p ≤ k → k < pke tp N m p → 97 ≤ tp k ∧ tp k ≤ 122
  | 0, p, hp => ⟨Nat.le_refl _, hp, fun k h1 h2 => by have e : pke tp N 0 p = p := rfl; omega⟩
  | m + 1, p, hp => by
    unfold pke
    by_cases c : p < N ∧ 97 ≤ tp p ∧ tp p ≤ 122
    · rw [if_pos c]
      obtain ⟨a, b, d⟩ := pke_bd (tp := tp) (N := N) m (p + 1) (by omega)
      refine ⟨by omega, b, fun k h1 h2 => ?_⟩
      by_cases z : k = p
      · subst z; omega
      · exact d k (by omega) h2
    · rw [if_neg c]
      exact ⟨Nat.le_refl _, hp, fun k h1 h2 => by omega⟩
def yke (tp : Nat → Int) (N p : Nat) : Nat := pke tp N (N - p) p
abbrev ysame (tp : Nat → Int) (s e j : Nat) : Prop := e = s + (y_str j).length ∧ ∀ k, k < (y_str j).length → tp (s + k) = (y_str j).getD k 0
def ykd (tp : Nat → Int) (s e : Nat) : Int := if ysame tp s e 0 then 1 else if ysame tp s e 1 then 2 else if ysame tp s e 2 then 3 else if ysame tp s e 3 then 4 else 0
def ykn (tp : Nat → Int) (N p : Nat) : Int := ykd tp (ysk tp N p) (yke tp N (ysk tp N p))
def pkind (tp : Nat → Int) (N p : Nat) : YR := if ykn tp N p = 0 then (false, ysk tp N p) else (true, yke tp N (ysk tp N p))
theorem ykd_bd (tp : Nat → Int) (s e : Nat) : 0 ≤ ykd tp s e ∧ ykd tp s e ≤ 4 := by
  unfold ykd
  repeat' split
  all_goals decide
section KINDS
variable {S L : Nat} {F G : Nat → Nat → Int} {h : Nat → Nat → Option Nat} {Q : Option V2 → W2 → Prop} {tp : Nat → Int} {N : Nat}
theorem L53 (hh : RfH h) {s : Nat} (hs : s + 3 ≤ N) (t : TA tp N F) (H1 : (∀ k, k < 3 → tp (s + k) = (y_str 0).getD k 0) → Q (some (vi 1)) (Wd S L F G h)) (H0 : ¬ (∀ k, k < 3 → tp (s + k) = (y_str 0).getD k 0) → Q (some (vi 0)) (Wd S L F G h)) : ∀ (m k : Nat), k + m = 3 → (∀ i, i < k → tp (s + i) = (y_str 0).getD i 0) → C53_17 (s : Int) (k : Int) (Wd S L F G h) Q
  | 0, k, e, g => by
    refine T53_17 hh ⟨by omega, ?_⟩
    rw [if_pos (by omega)]
    exact H1 (fun i hi => g i (by omega))
  | m + 1, k, e, g => by
    have N90 := t.2.1
    obtain ⟨t3, t4, t5⟩ := t.2.2 (s + k) (by omega)
    have ek : ((k : Nat) : Int).toNat = k := by omega
    have es : ((s : Int) + (k : Int)).toNat = s + k := by omega
    have rs : R32 ((y_str 0).getD k 0) := by
      have : k = 0 ∨ k = 1 ∨ k = 2 ∨ k = 3 ∨ k = 4 ∨ k = 5 := by omega
      rcases this with rfl | rfl | rfl | rfl | rfl | rfl <;> decide
    refine T53_17 hh ⟨by omega, ?_⟩
    rw [if_neg (by omega), ek, es, t3]
    refine ⟨by omega, by omega, by omega, rs, ?_⟩
    by_cases c : tp (s + k) = (y_str 0).getD k 0
    · rw [if_pos c]
      exact L53 hh hs t H1 H0 m (k + 1) (by omega) (fun i hi => by
        by_cases z : i = k
        · rw [z]; exact c
        · exact g i (by omega))
    · rw [if_neg c]
      exact H0 (fun q => c (q k (by omega)))
theorem K53 (hh : RfH h) {s e : Nat} (hs : s ≤ e) (he : e ≤ N) (t : TA tp N F) (e2 : F 284 2 = (e : Int)) (H1 : ysame tp s e 0 → Q (some (vi 1)) (Wd S L F G h)) (H0 : ¬ ysame tp s e 0 → Q (some (vi 0)) (Wd S L F G h)) : C53_0 (s : Int) (Wd S L F G h) Q := by
  have N90 := t.2.1
  have hl : (y_str 0).length = 3 := rfl
  refine T53_0 hh ⟨by omega, ?_⟩
  by_cases c : F 284 2 - (s : Int) = 3
  · rw [if_pos c]
    exact L53 hh (by omega) t (fun q => H1 ⟨by omega, fun k hk => q k (by omega)⟩) (fun q => H0 (fun z => q (fun k hk => z.2 k (by omega)))) 3 0 (by omega) (fun i hi => by omega)
  · rw [if_neg c]
    exact H0 (fun z => c (by have := z.1; omega))
theorem L53b (hh : RfH h) {s : Nat} (hs : s + 4 ≤ N) (t : TA tp N F) (H1 : (∀ k, k < 4 → tp (s + k) = (y_str 1).getD k 0) → Q (some (vi 1)) (Wd S L F G h)) (H0 : ¬ (∀ k, k < 4 → tp (s + k) = (y_str 1).getD k 0) → Q (some (vi 0)) (Wd S L F G h)) : ∀ (m k : Nat), k + m = 4 → (∀ i, i < k → tp (s + i) = (y_str 1).getD i 0) → C53b_17 (s : Int) (k : Int) (Wd S L F G h) Q
  | 0, k, e, g => by
    refine T53b_17 hh ⟨by omega, ?_⟩
    rw [if_pos (by omega)]
    exact H1 (fun i hi => g i (by omega))
  | m + 1, k, e, g => by
    have N90 := t.2.1
    obtain ⟨t3, t4, t5⟩ := t.2.2 (s + k) (by omega)
    have ek : ((k : Nat) : Int).toNat = k := by omega
    have es : ((s : Int) + (k : Int)).toNat = s + k := by omega
    have rs : R32 ((y_str 1).getD k 0) := by
      have : k = 0 ∨ k = 1 ∨ k = 2 ∨ k = 3 ∨ k = 4 ∨ k = 5 := by omega
      rcases this with rfl | rfl | rfl | rfl | rfl | rfl <;> decide
    refine T53b_17 hh ⟨by omega, ?_⟩
    rw [if_neg (by omega), ek, es, t3]
    refine ⟨by omega, by omega, by omega, rs, ?_⟩
    by_cases c : tp (s + k) = (y_str 1).getD k 0
    · rw [if_pos c]
      exact L53b hh hs t H1 H0 m (k + 1) (by omega) (fun i hi => by
        by_cases z : i = k
        · rw [z]; exact c
        · exact g i (by omega))
    · rw [if_neg c]
      exact H0 (fun q => c (q k (by omega)))
theorem K53b (hh : RfH h) {s e : Nat} (hs : s ≤ e) (he : e ≤ N) (t : TA tp N F) (e2 : F 284 2 = (e : Int)) (H1 : ysame tp s e 1 → Q (some (vi 1)) (Wd S L F G h)) (H0 : ¬ ysame tp s e 1 → Q (some (vi 0)) (Wd S L F G h)) : C53b_0 (s : Int) (Wd S L F G h) Q := by
  have N90 := t.2.1
  have hl : (y_str 1).length = 4 := rfl
  refine T53b_0 hh ⟨by omega, ?_⟩
  by_cases c : F 284 2 - (s : Int) = 4
  · rw [if_pos c]
    exact L53b hh (by omega) t (fun q => H1 ⟨by omega, fun k hk => q k (by omega)⟩) (fun q => H0 (fun z => q (fun k hk => z.2 k (by omega)))) 4 0 (by omega) (fun i hi => by omega)
  · rw [if_neg c]
    exact H0 (fun z => c (by have := z.1; omega))
theorem L53c (hh : RfH h) {s : Nat} (hs : s + 5 ≤ N) (t : TA tp N F) (H1 : (∀ k, k < 5 → tp (s + k) = (y_str 2).getD k 0) → Q (some (vi 1)) (Wd S L F G h)) (H0 : ¬ (∀ k, k < 5 → tp (s + k) = (y_str 2).getD k 0) → Q (some (vi 0)) (Wd S L F G h)) : ∀ (m k : Nat), k + m = 5 → (∀ i, i < k → tp (s + i) = (y_str 2).getD i 0) → C53c_17 (s : Int) (k : Int) (Wd S L F G h) Q
  | 0, k, e, g => by
    refine T53c_17 hh ⟨by omega, ?_⟩
    rw [if_pos (by omega)]
    exact H1 (fun i hi => g i (by omega))
  | m + 1, k, e, g => by
    have N90 := t.2.1
    obtain ⟨t3, t4, t5⟩ := t.2.2 (s + k) (by omega)
    have ek : ((k : Nat) : Int).toNat = k := by omega
    have es : ((s : Int) + (k : Int)).toNat = s + k := by omega
    have rs : R32 ((y_str 2).getD k 0) := by
      have : k = 0 ∨ k = 1 ∨ k = 2 ∨ k = 3 ∨ k = 4 ∨ k = 5 := by omega
      rcases this with rfl | rfl | rfl | rfl | rfl | rfl <;> decide
    refine T53c_17 hh ⟨by omega, ?_⟩
    rw [if_neg (by omega), ek, es, t3]
    refine ⟨by omega, by omega, by omega, rs, ?_⟩
    by_cases c : tp (s + k) = (y_str 2).getD k 0
    · rw [if_pos c]
      exact L53c hh hs t H1 H0 m (k + 1) (by omega) (fun i hi => by
        by_cases z : i = k
        · rw [z]; exact c
        · exact g i (by omega))
    · rw [if_neg c]
      exact H0 (fun q => c (q k (by omega)))
theorem K53c (hh : RfH h) {s e : Nat} (hs : s ≤ e) (he : e ≤ N) (t : TA tp N F) (e2 : F 284 2 = (e : Int)) (H1 : ysame tp s e 2 → Q (some (vi 1)) (Wd S L F G h)) (H0 : ¬ ysame tp s e 2 → Q (some (vi 0)) (Wd S L F G h)) : C53c_0 (s : Int) (Wd S L F G h) Q := by
  have N90 := t.2.1
  have hl : (y_str 2).length = 5 := rfl
  refine T53c_0 hh ⟨by omega, ?_⟩
  by_cases c : F 284 2 - (s : Int) = 5
  · rw [if_pos c]
    exact L53c hh (by omega) t (fun q => H1 ⟨by omega, fun k hk => q k (by omega)⟩) (fun q => H0 (fun z => q (fun k hk => z.2 k (by omega)))) 5 0 (by omega) (fun i hi => by omega)
  · rw [if_neg c]
    exact H0 (fun z => c (by have := z.1; omega))
theorem L53d (hh : RfH h) {s : Nat} (hs : s + 6 ≤ N) (t : TA tp N F) (H1 : (∀ k, k < 6 → tp (s + k) = (y_str 3).getD k 0) → Q (some (vi 1)) (Wd S L F G h)) (H0 : ¬ (∀ k, k < 6 → tp (s + k) = (y_str 3).getD k 0) → Q (some (vi 0)) (Wd S L F G h)) : ∀ (m k : Nat), k + m = 6 → (∀ i, i < k → tp (s + i) = (y_str 3).getD i 0) → C53d_17 (s : Int) (k : Int) (Wd S L F G h) Q
  | 0, k, e, g => by
    refine T53d_17 hh ⟨by omega, ?_⟩
    rw [if_pos (by omega)]
    exact H1 (fun i hi => g i (by omega))
  | m + 1, k, e, g => by
    have N90 := t.2.1
    obtain ⟨t3, t4, t5⟩ := t.2.2 (s + k) (by omega)
    have ek : ((k : Nat) : Int).toNat = k := by omega
    have es : ((s : Int) + (k : Int)).toNat = s + k := by omega
    have rs : R32 ((y_str 3).getD k 0) := by
      have : k = 0 ∨ k = 1 ∨ k = 2 ∨ k = 3 ∨ k = 4 ∨ k = 5 := by omega
      rcases this with rfl | rfl | rfl | rfl | rfl | rfl <;> decide
    refine T53d_17 hh ⟨by omega, ?_⟩
    rw [if_neg (by omega), ek, es, t3]
    refine ⟨by omega, by omega, by omega, rs, ?_⟩
    by_cases c : tp (s + k) = (y_str 3).getD k 0
    · rw [if_pos c]
      exact L53d hh hs t H1 H0 m (k + 1) (by omega) (fun i hi => by
        by_cases z : i = k
        · rw [z]; exact c
        · exact g i (by omega))
    · rw [if_neg c]
      exact H0 (fun q => c (q k (by omega)))
theorem K53d (hh : RfH h) {s e : Nat} (hs : s ≤ e) (he : e ≤ N) (t : TA tp N F) (e2 : F 284 2 = (e : Int)) (H1 : ysame tp s e 3 → Q (some (vi 1)) (Wd S L F G h)) (H0 : ¬ ysame tp s e 3 → Q (some (vi 0)) (Wd S L F G h)) : C53d_0 (s : Int) (Wd S L F G h) Q := by
  have N90 := t.2.1
  have hl : (y_str 3).length = 6 := rfl
  refine T53d_0 hh ⟨by omega, ?_⟩
  by_cases c : F 284 2 - (s : Int) = 6
  · rw [if_pos c]
    exact L53d hh (by omega) t (fun q => H1 ⟨by omega, fun k hk => q k (by omega)⟩) (fun q => H0 (fun z => q (fun k hk => z.2 k (by omega)))) 6 0 (by omega) (fun i hi => by omega)
  · rw [if_neg c]
    exact H0 (fun z => c (by have := z.1; omega))
theorem K52 (hh : RfH h) {s e : Nat} (hs : s ≤ e) (he : e ≤ N) (t : TA tp N F) (e2 : F 284 2 = (e : Int)) (H : Q (some (vi (ykd tp s e))) (Wd S L F G h)) : C52_0 (s : Int) (Wd S L F G h) Q := by
  unfold ykd at H
  refine T52_0 hh (K53 hh hs he t e2 (fun c => ?_) (fun c => ?_))
  · rw [if_pos c] at H
    refine ⟨_, rfl, rfl, by decide, ?_⟩
    rw [if_neg (by decide)]
    exact H
  rw [if_neg c] at H
  refine ⟨_, rfl, rfl, by decide, ?_⟩
  rw [if_pos rfl]
  refine K53b hh hs he t e2 (fun c => ?_) (fun c => ?_)
  · rw [if_pos c] at H
    refine ⟨_, rfl, rfl, by decide, ?_⟩
    rw [if_neg (by decide)]
    exact H
  rw [if_neg c] at H
  refine ⟨_, rfl, rfl, by decide, ?_⟩
  rw [if_pos rfl]
  refine K53c hh hs he t e2 (fun c => ?_) (fun c => ?_)
  · rw [if_pos c] at H
    refine ⟨_, rfl, rfl, by decide, ?_⟩
    rw [if_neg (by decide)]
    exact H
  rw [if_neg c] at H
  refine ⟨_, rfl, rfl, by decide, ?_⟩
  rw [if_pos rfl]
  refine K53d hh hs he t e2 (fun c => ?_) (fun c => ?_)
  · rw [if_pos c] at H
    refine ⟨_, rfl, rfl, by decide, ?_⟩
    rw [if_neg (by decide)]
    exact H
  rw [if_neg c] at H
  refine ⟨_, rfl, rfl, by decide, ?_⟩
  rw [if_pos rfl]
  exact H
theorem L51 (hh : RfH h) {s : Nat} : ∀ (m p : Nat) (F : Nat → Nat → Int), p + m = N → s ≤ p → TA tp N F → F 284 2 = (p : Int) → F 284 3 = -1 → (s < N → tp s ≠ 32) →
    (∀ F' : Nat → Nat → Int, CS tp N F' (if ykd tp s (pke tp N m p) = 0 then (false, s) else (true, pke tp N m p)) → F' 284 4 = ykd tp s (pke tp N m p) → F' 284 7 = F 284 7 → FT F F' → Q none (Wd S L F' G h)) → C51_9 (s : Int) (Wd S L F G h) Q := by
  have tail : ∀ (p : Nat) (F : Nat → Nat → Int), p ≤ N → s ≤ p → TA tp N F → F 284 2 = (p : Int) → F 284 3 = -1 → 
    (∀ F' : Nat → Nat → Int, CS tp N F' (if ykd tp s p = 0 then (false, s) else (true, p)) → F' 284 4 = ykd tp s p → F' 284 7 = F 284 7 → FT F F' → Q none (Wd S L F' G h)) → C52_0 (s : Int) (Wd S L F G h) (fun v w1 => ∃ (v4 : Int), v = some (vi v4) ∧ w1 = (Wd S L F G h) ∧
   (R32 v4 ∧
   (if v4 = 0 then
    C64_0 (s : Int) (Wd S L (am_up F 284 4 v4) G h) (fun v w1 => ∃ (F7 : Nat → Nat → Int), v = none ∧ w1 = (Wd S L F7 G h) ∧
     Q (none) (Wd S L F7 G h))
   else
    Q (none) (Wd S L (am_up F 284 4 v4) G h)))) := fun p F hp hs t e2 e3 H => by
    have bd := ykd_bd tp s p
    have N90 := t.2.1
    refine K52 hh hs hp t e2 ⟨_, rfl, rfl, by omega, ?_⟩
    have t4 : TA tp N (am_up F 284 4 (ykd tp s p)) := t.cong (by rw [up_at, if_neg (by decide)]) (up_out (by decide))
    have ft4 : FT F (am_up F 284 4 (ykd tp s p)) := FT.cnt (Or.inr (Or.inr (Or.inl rfl)))
    by_cases c : ykd tp s p = 0
    · rw [if_pos c]
      rw [if_pos c] at H
      refine K64 hh (by rw [up_at, if_neg (by decide)]; omega) (fun F2 b1 b2 b3 => ⟨_, rfl, rfl, ?_⟩)
      refine H F2 ⟨t4.fp b3, by dsimp only; omega, fun k => by simp at k, fun _ => ⟨by rw [b2, up_at, if_neg (by decide), e3, flt_neg], p, hp, by rw [b1, up_at, if_neg (by decide)]; exact e2⟩⟩ (by rw [b3.1 4 (by decide) (by decide), up_at, if_pos rfl]) (by rw [b3.1 7 (by decide) (by decide), up_at, if_neg (by decide)]) (ft4.trans b3.fr.ft)
    · rw [if_neg c]
      rw [if_neg c] at H
      exact H _ ⟨t4, hp, fun _ => ⟨by rw [up_at, if_neg (by decide)]; exact e2, by rw [up_at, if_neg (by decide)]; exact e3⟩, fun k => by simp at k⟩ (by rw [up_at, if_pos rfl]) (by rw [up_at, if_neg (by decide)]) ft4
  intro m
  induction m with
  | zero =>
    intro p F e hs t e2 e3 h32 H
    have N90 := t.2.1
    have tN := t.1
    refine T51_9 hh ⟨by omega, by omega, ?_⟩
    rw [if_pos (by omega)]
    exact tail p F (by omega) hs t e2 e3 H
  | succ m ih =>
    intro p F e hs t e2 e3 h32 H
    have N90 := t.2.1
    have tN := t.1
    have ek : pke tp N (m + 1) p = (if p < N ∧ 97 ≤ tp p ∧ tp p ≤ 122 then pke tp N m (p + 1) else p) := rfl
    rw [ek] at H
    refine T51_9 hh ⟨by omega, by omega, ?_⟩
    rw [if_neg (by omega)]
    refine K63 hh (by omega) t e2 (by decide) (by decide) (fun ok => ⟨_, rfl, rfl, by decide, ?_⟩) (fun no => ⟨_, rfl, rfl, by decide, ?_⟩)
    · rw [if_neg (by decide)]
      unfold yok at ok
      rw [if_pos ok] at H
      have fp : FP F (am_up F 284 2 (F 284 2 + 1)) := FP.up2 (Or.inl rfl)
      exact ih (p + 1) _ (by omega) (by omega) (t.fp fp) (by rw [up_at, if_pos rfl, e2]; omega) (by rw [up_at, if_neg (by decide)]; exact e3) h32 (fun F' q1 q2 q3 q4 => H F' q1 q2 (by rw [q3, up_at, if_neg (by decide)]) (fp.fr.ft.trans q4))
    · rw [if_pos rfl]
      unfold yok at no
      rw [if_neg no] at H
      exact tail p F (by omega) hs t e2 e3 H
theorem K51 (hh : RfH h) {p : Nat} (hp : p ≤ N) (t : TA tp N F) (e2 : F 284 2 = (p : Int)) (e3 : F 284 3 = -1) (H : ∀ F' : Nat → Nat → Int, CS tp N F' (pkind tp N p) → F' 284 4 = ykn tp N p → F' 284 7 = F 284 7 → FT F F' → Q none (Wd S L F' G h)) : C51_0 (Wd S L F G h) Q := by
  have hb := ysk_bd (tp := tp) hp
  refine T51_0 hh (K62 hh hp t e2 (fun F1 t1 e1 f1 a1 => ⟨_, rfl, rfl, ?_⟩))
  rw [e1]
  exact L51 hh (N - ysk tp N p) (ysk tp N p) F1 (by omega) (Nat.le_refl _) t1 e1 (by rw [f1]; exact e3) (fun q => ysk_end hp q) (fun F' q1 q2 q3 q4 => H F' q1 q2 (by rw [q3, a1.1 7 (by decide) (by decide)]) (a1.fr.ft.trans q4))
/-! the end of the text -/
def pend (tp : Nat → Int) (N p : Nat) : YR := if ysk tp N p < N then (false, ysk tp N p) else (true, ysk tp N p)
def pfrm (tp : Nat → Int) (N p : Nat) : YR := yrb (yrb (pnum tp N p) (pchr tp N 47 47)) (pchr tp N 49 50)
def pbody (tp : Nat → Int) (N : Nat) (k : Int) (e : Nat) : YR := if k = 1 then (yline tp N e).1 else if k = 2 then pwrd tp N e else if k = 3 then pfrm tp N e else pchr tp N 48 51 e
def pall (tp : Nat → Int) (N : Nat) : YR := yrb (pkind tp N 0) (fun e => yrb (pbody tp N (ykn tp N 0) e) (pend tp N))
theorem Kend (hh : RfH h) {x : YR} (c : CS tp N F x) (H : ∀ F' : Nat → Nat → Int, CS tp N F' (yrb x (pend tp N)) → FP F F' → Q none (Wd S L F' G h)) : C62_0 (Wd S L F G h) (fun v w1 => ∃ (F5 : Nat → Nat → Int), v = none ∧ w1 = (Wd S L F5 G h) ∧
     (R32 (F5 284 2) ∧
     R32 (F5 284 1) ∧
     (if (F5 284 1) ≤ (F5 284 2) then
      Q (none) (Wd S L F5 G h)
     else
      C64_0 (F5 284 2) (Wd S L F5 G h) (fun v w1 => ∃ (F9 : Nat → Nat → Int), v = none ∧ w1 = (Wd S L F9 G h) ∧
       Q (none) (Wd S L F9 G h))))) := by
  obtain ⟨p, hp, ep, ex⟩ := c.pos
  have hf := c.fl3
  have hb := ysk_bd (tp := tp) hp
  refine K62 hh hp c.1 ep (fun F1 t1 e1 f1 a1 => ⟨_, rfl, rfl, ?_⟩)
  have t11 := t1.1
  have t12 := t1.2.1
  have ey : ∀ y, pend tp N p = y → yrb x (pend tp N) = yrb x (fun _ => y) := fun y hy => by
    unfold yrb
    cases e : x.1
    · rfl
    · rw [if_pos rfl, if_pos rfl, ← hy, ex e]
  refine ⟨by omega, by omega, ?_⟩
  by_cases g : F1 284 1 ≤ F1 284 2
  · rw [if_pos g]
    have e : pend tp N p = (true, ysk tp N p) := by unfold pend; rw [if_neg (by omega)]
    exact H F1 (c.mk (p := p) t1 ex e1 hb.2 (ey _ e) (fun _ => ⟨rfl, f1⟩) (fun k => by simp at k)) a1
  · rw [if_neg g]
    have e : pend tp N p = (false, ysk tp N p) := by unfold pend; rw [if_pos (by omega)]
    refine K64 hh (by omega) (fun F2 b1 b2 b3 => ⟨_, rfl, rfl, ?_⟩)
    exact H F2 (c.mk (p := p) (t1.fp b3) ex (by rw [b1]; exact e1) hb.2 (ey _ e) (fun k => by simp at k) (fun _ => ⟨hb.2, by rw [b2, f1, e1]⟩)) (a1.trans b3)
def CC (tp : Nat → Int) (N : Nat) (k : Int) (e : Nat) (F : Nat → Nat → Int) : Prop := F 284 4 = k ∧ (k = 1 → CA F (yline tp N e).2.1 (yline tp N e).2.2.1 (yline tp N e).2.2.2) ∧ (k = 2 → F 284 8 = tp (ysk tp N e) - 48 ∧ 1 ≤ F 284 8 ∧ F 284 8 ≤ 9 ∧ F 284 7 = ((ywl tp N (pwh tp N e).2).2.1 : Nat) ∧ ∀ i, i < (ywl tp N (pwh tp N e).2).2.1 → F 286 i = (ywl tp N (pwh tp N e).2).2.2 i) ∧ (k = 3 → F 284 8 = ynv tp N (ysk tp N e) ∧ F 284 9 = tp (ysk tp N (yrb (pnum tp N e) (pchr tp N 47 47)).2) - 48 ∧ 0 ≤ F 284 8 ∧ F 284 8 ≤ 12 ∧ 0 ≤ F 284 9 ∧ F 284 9 ≤ 9) ∧ (k = 4 → F 284 8 = tp (ysk tp N e) - 48 ∧ 0 ≤ F 284 8 ∧ F 284 8 ≤ 9)
theorem CC.fp {k : Int} {e : Nat} {F' : Nat → Nat → Int} (c : CC tp N k e F) (f : FP F F') : CC tp N k e F' := by
  obtain ⟨a1, a2, a3, a4, a5⟩ := c
  refine ⟨by rw [f.1 4 (by decide) (by decide)]; exact a1, fun q => ?_, fun q => ?_, fun q => ?_, fun q => ?_⟩
  · exact ⟨by rw [f.1 7 (by decide) (by decide)]; exact (a2 q).1, fun i hi => by rw [f.2 286 (by decide), f.2 287 (by decide)]; exact (a2 q).2 i hi⟩
  · rw [f.1 8 (by decide) (by decide), f.1 7 (by decide) (by decide), f.2 286 (by decide)]; exact a3 q
  · rw [f.1 8 (by decide) (by decide), f.1 9 (by decide) (by decide)]; exact a4 q
  · rw [f.1 8 (by decide) (by decide)]; exact a5 q
theorem yrb_1 {x : YR} {f : Nat → YR} (g : (yrb x f).1 = true) : x.1 = true ∧ (f x.2).1 = true := by
  unfold yrb at g
  cases e : x.1
  · rw [if_neg (by rw [e]; simp), e] at g
    simp at g
  · rw [if_pos e] at g
    exact ⟨rfl, g⟩
theorem K50 (hh : RfH h) (t : TA tp N F) (H : ∀ F' : Nat → Nat → Int, CS tp N F' (pall tp N) → ((pall tp N).1 = true → CC tp N (ykn tp N 0) (pkind tp N 0).2 F') → FT F F' → Q none (Wd S L F' G h)) : C50_0 (Wd S L F G h) Q := by
  generalize hF0 : am_up (am_up (am_up F 284 2 0) 284 3 (-1)) 284 7 0 = F0
  have ft0 : FT F F0 := by rw [← hF0]; exact ((FT.cnt (Or.inl rfl)).trans (FT.cnt (Or.inr (Or.inl rfl)))).trans (FT.cnt (Or.inr (Or.inr (Or.inr (Or.inl rfl)))))
  have t0 : TA tp N F0 := t.cong (ft0.1 1 (by decide) (by decide) (by decide) (by decide) (by decide) (by decide)) (ft0.2 285 (by decide) (by decide) (by decide))
  refine T50_0 hh ?_
  rw [hF0]
  refine K51 hh (p := 0) (by omega) t0 (by rw [← hF0, up_at, if_neg (by decide), up_at, if_neg (by decide), up_at, if_pos rfl]; rfl) (by rw [← hF0, up_at, if_neg (by decide), up_at, if_pos rfl]) (fun F1 c1 e4 e7 ft1 => ⟨_, rfl, rfl, ?_⟩)
  have e70 : F1 284 7 = 0 := by rw [e7, ← hF0, up_at, if_pos rfl]
  have bd := ykd_bd tp (ysk tp N 0) (yke tp N (ysk tp N 0))
  have bd' : 0 ≤ ykn tp N 0 ∧ ykn tp N 0 ≤ 4 := bd
  have ftA := ft0.trans ft1
  have epk : ykn tp N 0 ≠ 0 → pkind tp N 0 = (true, (pkind tp N 0).2) := fun q => by unfold pkind; rw [if_neg q]
  have fin : ∀ (F2 : Nat → Nat → Int), ykn tp N 0 ≠ 0 → CS tp N F2 (pbody tp N (ykn tp N 0) (pkind tp N 0).2) → ((pbody tp N (ykn tp N 0) (pkind tp N 0).2).1 = true → CC tp N (ykn tp N 0) (pkind tp N 0).2 F2) → FT F F2 → C62_0 (Wd S L F2 G h) (fun v w1 => ∃ (F5 : Nat → Nat → Int), v = none ∧ w1 = (Wd S L F5 G h) ∧
     (R32 (F5 284 2) ∧
     R32 (F5 284 1) ∧
     (if (F5 284 1) ≤ (F5 284 2) then
      Q (none) (Wd S L F5 G h)
     else
      C64_0 (F5 284 2) (Wd S L F5 G h) (fun v w1 => ∃ (F9 : Nat → Nat → Int), v = none ∧ w1 = (Wd S L F9 G h) ∧
       Q (none) (Wd S L F9 G h))))) := fun F2 hk c2 cc ft2 => by
    refine Kend hh c2 (fun F3 c3 fp3 => ?_)
    have ea : pall tp N = yrb (pbody tp N (ykn tp N 0) (pkind tp N 0).2) (pend tp N) := by unfold pall; rw [epk hk]; rfl
    refine H F3 (by rw [ea]; exact c3) (fun q => ?_) (ft2.trans fp3.fr.ft)
    rw [ea] at q
    exact (cc (yrb_1 q).1).fp fp3
  refine ⟨by omega, ?_⟩
  rw [e4]
  by_cases k1 : ykn tp N 0 = 1
  · rw [if_pos k1]
    rw [epk (by omega)] at c1
    refine K54 hh c1 e70 (fun F2 c2 ca2 fr2 => ⟨_, rfl, rfl, fin F2 (by omega) ?_ (fun q => ?_) (ftA.trans fr2.ft)⟩)
    · unfold pbody; rw [if_pos k1]; exact c2
    · unfold pbody at q; rw [if_pos k1] at q
      exact ⟨by rw [fr2.1 4 (by decide) (by decide) (by decide)]; exact e4, fun _ => ca2 q, fun z => by omega, fun z => by omega, fun z => by omega⟩
  rw [if_neg k1]
  by_cases k2 : ykn tp N 0 = 2
  · rw [if_pos k2]
    rw [epk (by omega)] at c1
    refine K57 hh c1 e70 (fun F2 c2 ca2 ft2 => ⟨_, rfl, rfl, fin F2 (by omega) ?_ (fun q => ?_) (ftA.trans ft2)⟩)
    · unfold pbody; rw [if_neg k1, if_pos k2]; exact c2
    · unfold pbody at q; rw [if_neg k1, if_pos k2] at q
      obtain ⟨z1, z2⟩ := ca2 q
      exact ⟨by rw [z1]; exact e4, fun z => by omega, fun _ => z2, fun z => by omega, fun z => by omega⟩
  rw [if_neg k2]
  by_cases k3 : ykn tp N 0 = 3
  · rw [if_pos k3]
    rw [epk (by omega)] at c1
    refine T58_0 hh (K61s hh c1 (fun F2 v c2 hv fp2 => ⟨_, _, rfl, rfl, ?_⟩))
    rw [yrb_t] at c2 hv
    refine K59s hh (c2.up8 (Or.inl rfl)) (by decide) (fun F3 c3 fp3 => ⟨_, rfl, rfl, ?_⟩)
    refine K60s hh c3 (by decide) (by decide) (fun F4 v4 c4 hv4 fp4 => ⟨_, _, rfl, rfl, _, rfl, rfl, ?_⟩)
    have ft5 : FT F (am_up F4 284 9 v4) := ftA.trans (fp2.fr.ft.trans ((FT.cnt (Or.inr (Or.inr (Or.inr (Or.inr (Or.inl rfl)))))).trans (fp3.fr.ft.trans (fp4.fr.ft.trans (FT.cnt (Or.inr (Or.inr (Or.inr (Or.inr (Or.inr rfl))))))))))
    refine fin _ (by omega) ?_ (fun q => ?_) ft5
    · unfold pbody; rw [if_neg k1, if_neg k2, if_pos k3]; exact c4.up8 (Or.inr (Or.inl rfl))
    · unfold pbody at q; rw [if_neg k1, if_neg k2, if_pos k3] at q
      have q1 := yrb_1 q
      have q2 := yrb_1 q1.1
      have h1 := hv q2.1
      have h2 := hv4 q
      have e8 : am_up F4 284 9 v4 284 8 = v := by rw [up_at, if_neg (by decide), fp4.1 8 (by decide) (by decide), fp3.1 8 (by decide) (by decide), up_at, if_pos rfl]
      have e9 : am_up F4 284 9 v4 284 9 = v4 := by rw [up_at, if_pos rfl]
      have e44 : am_up F4 284 9 v4 284 4 = ykn tp N 0 := by rw [up_at, if_neg (by decide), fp4.1 4 (by decide) (by decide), fp3.1 4 (by decide) (by decide), up_at, if_neg (by decide), fp2.1 4 (by decide) (by decide), e4]
      refine ⟨e44, fun z => by omega, fun z => by omega, fun _ => ?_, fun z => by omega⟩
      rw [e8, e9]
      exact ⟨h1.1, h2.1, by omega, by omega, by omega, by omega⟩
  rw [if_neg k3]
  by_cases k4 : ykn tp N 0 = 4
  · rw [if_pos k4]
    rw [epk (by omega)] at c1
    refine K60s hh c1 (by decide) (by decide) (fun F2 v c2 hv fp2 => ⟨_, _, rfl, rfl, ?_⟩)
    rw [yrb_t] at c2 hv
    refine fin _ (by omega) ?_ (fun q => ?_) (ftA.trans (fp2.fr.ft.trans (FT.cnt (Or.inr (Or.inr (Or.inr (Or.inr (Or.inl rfl))))))))
    · unfold pbody; rw [if_neg k1, if_neg k2, if_neg k3]; exact c2.up8 (Or.inl rfl)
    · unfold pbody at q; rw [if_neg k1, if_neg k2, if_neg k3] at q
      have h1 := hv q
      refine ⟨by rw [up_at, if_neg (by decide), fp2.1 4 (by decide) (by decide)]; exact e4, fun z => by omega, fun z => by omega, fun z => by omega, fun _ => ?_⟩
      rw [up_at, if_pos rfl]
      exact ⟨h1.1, by omega, by omega⟩
  rw [if_neg k4]
  have k0 : ykn tp N 0 = 0 := by omega
  have epk0 : pkind tp N 0 = (false, ysk tp N 0) := by unfold pkind; rw [if_pos k0]
  have ea : pall tp N = (false, ysk tp N 0) := by unfold pall; rw [epk0]; rfl
  refine Kend hh c1 (fun F3 c3 fp3 => ?_)
  rw [epk0] at c3
  refine H F3 (by rw [ea]; exact c3) (fun q => by rw [ea] at q; simp at q) (ftA.trans fp3.fr.ft)
end KINDS
