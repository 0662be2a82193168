/-! read: a word's line; which line it is -/
def pwl (tp : Nat → Int) (N : Nat) : Nat → Nat → Nat → Row → Nat × Nat × Row
  | 0, p, n, lt => (p, n, lt)
  | m + 1, p, n, lt => if p < N ∧ 97 ≤ tp p ∧ tp p ≤ 108 ∧ n < 6 then pwl tp N m (p + 1) (n + 1) (yu1 lt n (tp p - 97)) else (p, n, lt)
theorem pwl_ok {tp : Nat → Int} {N : Nat} : ∀ (m p n : Nat) (lt : Row), p ≤ N → n ≤ 6 → (∀ k, k < n → 0 ≤ lt k ∧ lt k < 12) → p ≤ (pwl tp N m p n lt).1 ∧ (pwl tp N m p n lt).1 ≤ N ∧ (pwl tp N m p n lt).2.1 ≤ 6 ∧ n ≤ (pwl tp N m p n lt).2.1 ∧ ((pwl tp N m p n lt).2.1 = n → (pwl tp N m p n lt).1 = p) ∧ ∀ k, k < (pwl tp N m p n lt).2.1 → 0 ≤ (pwl tp N m p n lt).2.2 k ∧ (pwl tp N m p n lt).2.2 k < 12
  | 0, p, n, lt, hp, hn, g => ⟨Nat.le_refl _, hp, hn, Nat.le_refl _, fun _ => rfl, g⟩
  | m + 1, p, n, lt, hp, hn, g => by
    unfold pwl
    by_cases c : p < N ∧ 97 ≤ tp p ∧ tp p ≤ 108 ∧ n < 6
    · rw [if_pos c]
      have := pwl_ok (tp := tp) (N := N) m (p + 1) (n + 1) (yu1 lt n (tp p - 97)) (by omega) (by omega) (fun k hk => by
        unfold yu1
        by_cases z : k = n
        · rw [if_pos z]; omega
        · rw [if_neg z]; exact g k (by omega))
      obtain ⟨a, b, c, d, e, f⟩ := this
      exact ⟨by omega, b, c, by omega, fun k => by omega, f⟩
    · rw [if_neg c]
      exact ⟨Nat.le_refl _, hp, hn, Nat.le_refl _, fun _ => rfl, g⟩
def ywl (tp : Nat → Int) (N p : Nat) : Nat × Nat × Row := pwl tp N 7 (ysk tp N p) 0 (fun _ => 0)
def pwt (tp : Nat → Int) (N p : Nat) : YR := if (ywl tp N p).2.1 = 0 then (false, (ywl tp N p).1) else (true, (ywl tp N p).1)
def pwh (tp : Nat → Int) (N p : Nat) : YR := yrb (pchr tp N 49 57 p) (pchr tp N 58 58)
def pwrd (tp : Nat → Int) (N p : Nat) : YR := yrb (pwh tp N p) (pwt tp N)
section WORDS2
variable {S L : Nat} {F G : Nat → Nat → Int} {h : Nat → Nat → Option Nat} {Q : Option V2 → W2 → Prop} {tp : Nat → Int} {N : Nat}
theorem L57 (hh : RfH h) : ∀ (m n p : Nat) (lt : Row) (F : Nat → Nat → Int), n + m = 7 → n ≤ 6 → p ≤ N → TA tp N F → F 284 2 = (p : Int) → F 284 7 = (n : Int) → R32 (F 284 3) → (∀ k, k < n → F 286 k = lt k) →
    (∀ F' : Nat → Nat → Int, F' 284 2 = ((pwl tp N m p n lt).1 : Nat) → F' 284 7 = ((pwl tp N m p n lt).2.1 : Nat) → F' 284 3 = (if (pwl tp N m p n lt).2.1 = 0 then flt (F 284 3) ((pwl tp N m p n lt).1 : Nat) else F 284 3) → (∀ k, k < (pwl tp N m p n lt).2.1 → F' 286 k = (pwl tp N m p n lt).2.2 k) → FR F F' → Q none (Wd S L F' G h)) → C57_21 (Wd S L F G h) Q
  | 0, n, p, lt, F, e, hn, hp, t, e2, e7, rf, a, H => by omega
  | m + 1, n, p, lt, F, e, hn, hp, t, e2, e7, rf, a, H => by
    have N90 := t.2.1
    have stop : ¬ (p < N ∧ 97 ≤ tp p ∧ tp p ≤ 108 ∧ n < 6) → (if (F 284 7) = 0 then C64_0 (F 284 2) (Wd S L F G h) (fun v w1 => ∃ (F4 : Nat → Nat → Int), v = none ∧ w1 = (Wd S L F4 G h) ∧ Q (none) (Wd S L F4 G h)) else Q (none) (Wd S L F G h)) := fun no => by
      have el : pwl tp N (m + 1) p n lt = (p, n, lt) := by
        show (if _ then _ else _) = _
        rw [if_neg no]
      rw [el] at H
      dsimp only at H
      by_cases z : F 284 7 = 0
      · rw [if_pos z]
        refine K64 hh rf (fun F2 b1 b2 b3 => ⟨_, rfl, rfl, ?_⟩)
        refine H F2 (by rw [b1]; exact e2) (by rw [b3.1 7 (by decide) (by decide)]; exact e7) ?_ (fun k hk => by rw [b3.2 286 (by decide)]; exact a k hk) b3.fr
        rw [if_pos (by omega), b2, e2]
      · rw [if_neg z]
        refine H F e2 e7 ?_ a FR.rfl'
        rw [if_neg (by omega)]
    refine T57_21 hh ⟨by omega, ?_⟩
    by_cases c6 : 6 ≤ F 284 7
    · rw [if_pos c6]
      exact stop (fun q => by omega)
    rw [if_neg c6]
    refine K63 hh hp t e2 (by decide) (by decide) (fun ok => ⟨_, rfl, rfl, by decide, ?_⟩) (fun no => ⟨_, rfl, rfl, by decide, ?_⟩)
    · rw [if_neg (by decide)]
      obtain ⟨k1, k2, k3⟩ := ok
      have yes : p < N ∧ 97 ≤ tp p ∧ tp p ≤ 108 ∧ n < 6 := by omega
      have el : pwl tp N (m + 1) p n lt = pwl tp N m (p + 1) (n + 1) (yu1 lt n (tp p - 97)) := by
        show (if _ then _ else _) = _
        rw [if_pos yes]
      rw [el] at H
      have ei : (F 284 2).toNat = p := by omega
      have en : (F 284 7).toNat = n := by omega
      rw [ei, en, (t.2.2 _ k1).1]
      refine ⟨by omega, by omega, ?_⟩
      have fr2 : FR F (am_up (am_up (am_up F 286 n (tp p - 97)) 284 7 (F 284 7 + 1)) 284 2 (F 284 2 + 1)) := ((FR.arr (Or.inl rfl)).trans (FR.cnt (Or.inr (Or.inr rfl)))).trans (FR.cnt (Or.inl rfl))
      have h3 : am_up (am_up (am_up F 286 n (tp p - 97)) 284 7 (F 284 7 + 1)) 284 2 (F 284 2 + 1) 284 3 = F 284 3 := by rw [up_at, if_neg (by decide), up_at, if_neg (by decide), up_out (by decide)]
      refine L57 hh m (n + 1) (p + 1) (yu1 lt n (tp p - 97)) _ (by omega) (by omega) (by omega) (t.fr fr2) (by rw [up_at, if_pos rfl, e2]; omega) (by rw [up_at, if_neg (by decide), up_at, if_pos rfl, e7]; omega) (by rw [h3]; exact rf) (fun k hk => ?_) (fun F' q1 q2 q3 q4 q5 => H F' q1 q2 (by rw [q3, h3]) q4 (fr2.trans q5))
      rw [up_out (by decide), up_out (by decide), up_at]
      unfold yu1
      by_cases z : k = n
      · rw [if_pos z, if_pos z]
      · rw [if_neg z, if_neg z]; exact a k (by omega)
    · rw [if_pos rfl]
      exact stop (fun q => no ⟨q.1, q.2.1, q.2.2.1⟩)
theorem CS.up8 {x : YR} {k : Nat} {v : Int} (hk : k = 8 ∨ k = 9 ∨ k = 4) (c : CS tp N F x) : CS tp N (am_up F 284 k v) x := by
  obtain ⟨t, b, g, f⟩ := c
  refine ⟨t.cong (by rw [up_at, if_neg (by omega)]) (up_out (by decide)), b, fun z => ?_, fun z => ?_⟩
  · rw [up_at, if_neg (by omega), up_at, if_neg (by omega)]; exact g z
  · rw [up_at, if_neg (by omega), up_at, if_neg (by omega)]; exact f z
def FT (F F' : Nat → Nat → Int) : Prop := (∀ k, k ≠ 2 → k ≠ 3 → k ≠ 4 → k ≠ 7 → k ≠ 8 → k ≠ 9 → F' 284 k = F 284 k) ∧ (∀ q, q ≠ 284 → q ≠ 286 → q ≠ 287 → F' q = F q)
theorem FT.rfl' {F : Nat → Nat → Int} : FT F F := ⟨fun _ _ _ _ _ _ _ => rfl, fun _ _ _ _ => rfl⟩
theorem FT.trans {A B C : Nat → Nat → Int} (h1 : FT A B) (h2 : FT B C) : FT A C := ⟨fun k a b c d e f => by rw [h2.1 k a b c d e f, h1.1 k a b c d e f], fun q a b c => by rw [h2.2 q a b c, h1.2 q a b c]⟩
theorem FR.ft {F F' : Nat → Nat → Int} (h : FR F F') : FT F F' := ⟨fun k a b _ d _ _ => h.1 k a b d, fun q a b c => h.2 q a b c⟩
theorem FT.cnt {F : Nat → Nat → Int} {k : Nat} {v : Int} (hk : k = 2 ∨ k = 3 ∨ k = 4 ∨ k = 7 ∨ k = 8 ∨ k = 9) : FT F (am_up F 284 k v) := ⟨fun j a b c d e f => by rw [up_at, if_neg (by omega)], fun p a b c => up_out a⟩
theorem K57 (hh : RfH h) {p : Nat} (c : CS tp N F (true, p)) (e7 : F 284 7 = 0) (H : ∀ F' : Nat → Nat → Int, CS tp N F' (pwrd tp N p) → ((pwrd tp N p).1 = true → F' 284 4 = F 284 4 ∧ F' 284 8 = tp (ysk tp N p) - 48 ∧ 1 ≤ F' 284 8 ∧ F' 284 8 ≤ 9 ∧ F' 284 7 = ((ywl tp N (pwh tp N p).2).2.1 : Nat) ∧ ∀ k, k < (ywl tp N (pwh tp N p).2).2.1 → F' 286 k = (ywl tp N (pwh tp N p).2).2.2 k) → FT F F' → Q none (Wd S L F' G h)) : C57_0 (Wd S L F G h) Q := by
  refine T57_0 hh (K60s hh c (by decide) (by decide) (fun F1 v c1 hv fp1 => ⟨_, _, rfl, rfl, ?_⟩))
  rw [yrb_t] at c1 hv
  dsimp only at hv
  refine K59s hh (c1.up8 (Or.inl rfl)) (by decide) (fun F2 c2 fp2 => ⟨_, rfl, rfl, ?_⟩)
  have c2' : CS tp N F2 (pwh tp N p) := c2
  obtain ⟨p2, hp2, ep2, ex2⟩ := c2'.pos
  have hf2 := c2'.fl3
  have ft2 : FT F F2 := fp1.fr.ft.trans ((FT.cnt (Or.inr (Or.inr (Or.inr (Or.inr (Or.inl rfl)))))).trans fp2.fr.ft)
  refine K62 hh hp2 c2.1 ep2 (fun F3 t3 e3 f3 fp3 => ⟨_, rfl, rfl, ?_⟩)
  have hb := ysk_bd (tp := tp) hp2
  have e73 : F3 284 7 = 0 := by rw [fp3.1 7 (by decide) (by decide), fp2.1 7 (by decide) (by decide), up_at, if_neg (by decide), fp1.1 7 (by decide) (by decide), e7]
  have e83 : F3 284 8 = v := by rw [fp3.1 8 (by decide) (by decide), fp2.1 8 (by decide) (by decide), up_at, if_pos rfl]
  have e43 : F3 284 4 = F 284 4 := by rw [fp3.1 4 (by decide) (by decide), fp2.1 4 (by decide) (by decide), up_at, if_neg (by decide), fp1.1 4 (by decide) (by decide)]
  have ok := pwl_ok (tp := tp) (N := N) 7 (ysk tp N p2) 0 (fun _ => 0) hb.2 (by omega) (fun k hk => by omega)
  refine L57 hh 7 0 (ysk tp N p2) (fun _ => 0) F3 (by omega) (by omega) hb.2 t3 e3 e73 (by omega) (fun k hk => by omega) (fun F4 q1 q2 q3 q4 q5 => ?_)
  have ew : pwl tp N 7 (ysk tp N p2) 0 (fun _ => 0) = ywl tp N p2 := rfl
  rw [ew] at q1 q2 q3 q4 ok
  obtain ⟨o1, o2, o3, o4, o5, o6⟩ := ok
  refine H F4 ?_ (fun g => ?_) (ft2.trans (fp3.fr.ft.trans q5.ft))
  · refine c2'.mk (p := p2) (p' := (ywl tp N p2).1) (y := pwt tp N p2) (t3.fr q5) ex2 q1 o2 ?_ ?_ ?_
    · unfold pwrd yrb
      cases e : (pwh tp N p).1
      · rfl
      · rw [ex2 e]
    · unfold pwt
      by_cases z : (ywl tp N p2).2.1 = 0
      · rw [if_pos z]; exact fun k => by simp at k
      · rw [if_neg z]
        rw [if_neg z] at q3
        exact fun _ => ⟨rfl, by rw [q3, f3]⟩
    · unfold pwt
      by_cases z : (ywl tp N p2).2.1 = 0
      · rw [if_pos z]
        rw [if_pos z] at q3
        exact fun _ => ⟨o2, by rw [q3, f3]⟩
      · rw [if_neg z]; exact fun k => by simp at k
  · have g1 : (pwh tp N p).1 = true := by
      cases e : (pwh tp N p).1
      · unfold pwrd yrb at g
        rw [if_neg (by rw [e]; simp), e] at g
        simp at g
      · rfl
    have g0 : (pchr tp N 49 57 p).1 = true := by
      cases e : (pchr tp N 49 57 p).1
      · unfold pwh yrb at g1
        rw [if_neg (by rw [e]; simp), e] at g1
        simp at g1
      · rfl
    have hv2 := hv g0
    have e84 : F4 284 8 = v := by rw [q5.1 8 (by decide) (by decide) (by decide)]; exact e83
    rw [ex2 g1] at q2 q4
    exact ⟨by rw [q5.1 4 (by decide) (by decide) (by decide)]; exact e43, by rw [e84, hv2.1], by omega, by omega, q2, q4⟩
/-! the reference -/
end WORDS2
