/-! read: the smallest steps, one form -/
abbrev YR : Type := Bool × Nat
def yrb (x : YR) (f : Nat → YR) : YR := if x.1 = true then f x.2 else x
def pchr (tp : Nat → Int) (N : Nat) (a b : Int) (p : Nat) : YR := if ysk tp N p < N ∧ a ≤ tp (ysk tp N p) ∧ tp (ysk tp N p) ≤ b then (true, ysk tp N p + 1) else (false, ysk tp N p)
def pnum (tp : Nat → Int) (N : Nat) (p : Nat) : YR := if (ysk tp N p < N ∧ 48 ≤ tp (ysk tp N p) ∧ tp (ysk tp N p) ≤ 57) ∧ 1 ≤ ynv tp N (ysk tp N p) ∧ ynv tp N (ysk tp N p) ≤ 12 then (true, ynp tp N (ysk tp N p)) else (false, ysk tp N p)
def CS (tp : Nat → Int) (N : Nat) (F : Nat → Nat → Int) (x : YR) : Prop := TA tp N F ∧ x.2 ≤ N ∧ (x.1 = true → F 284 2 = (x.2 : Int) ∧ F 284 3 = -1) ∧ (x.1 = false → F 284 3 = (x.2 : Int) ∧ ∃ p : Nat, p ≤ N ∧ F 284 2 = (p : Int))
def MS (tp : Nat → Int) (N : Nat) (F : Nat → Nat → Int) (x : YR) : Prop := TB tp N F ∧ x.2 ≤ N ∧ F 297 22 = (x.2 : Int) ∧ (x.1 = true → F 297 23 = 0) ∧ (x.1 = false → F 297 23 = 1 ∧ (x.2 < N → tp x.2 ≠ 32))
def FQ (F F' : Nat → Nat → Int) : Prop := (∀ k, k ≠ 22 → k ≠ 23 → k ≠ 24 → F' 297 k = F 297 k) ∧ (∀ q, q ≠ 297 → F' q = F q)
theorem FQ.rfl' {F : Nat → Nat → Int} : FQ F F := ⟨fun _ _ _ _ => rfl, fun _ _ => rfl⟩
theorem FQ.trans {A B C : Nat → Nat → Int} (h1 : FQ A B) (h2 : FQ B C) : FQ A C := ⟨fun k a b c => by rw [h2.1 k a b c, h1.1 k a b c], fun q a => by rw [h2.2 q a, h1.2 q a]⟩
theorem FQ.up {F : Nat → Nat → Int} {k : Nat} {v : Int} (hk : k = 22 ∨ k = 23 ∨ k = 24) : FQ F (am_up F 297 k v) := ⟨fun j a b c => by rw [up_at, if_neg (by omega)], fun q hq => up_out hq⟩
theorem TB.fq {tp : Nat → Int} {N : Nat} {F F' : Nat → Nat → Int} (t : TB tp N F) (e : FQ F F') : TB tp N F' := t.cong (e.1 7 (by decide) (by decide) (by decide)) (e.2 302 (by decide))
theorem pchr_t {tp : Nat → Int} {N : Nat} {a b : Int} {p : Nat} (c : yok tp N a b (ysk tp N p)) : pchr tp N a b p = (true, ysk tp N p + 1) := if_pos c
theorem pchr_f {tp : Nat → Int} {N : Nat} {a b : Int} {p : Nat} (c : ¬ yok tp N a b (ysk tp N p)) : pchr tp N a b p = (false, ysk tp N p) := if_neg c
theorem pnum_t {tp : Nat → Int} {N : Nat} {p : Nat} (c : ynk tp N (ysk tp N p)) : pnum tp N p = (true, ynp tp N (ysk tp N p)) := if_pos c
theorem pnum_f {tp : Nat → Int} {N : Nat} {p : Nat} (c : ¬ ynk tp N (ysk tp N p)) : pnum tp N p = (false, ysk tp N p) := if_neg c
theorem yrb_t {p : Nat} {f : Nat → YR} : yrb (true, p) f = f p := rfl
theorem yrb_f {p : Nat} {f : Nat → YR} : yrb (false, p) f = (false, p) := rfl
theorem ynp_le {tp : Nat → Int} {N q : Nat} (h : q < N) : ynp tp N q ≤ N := by
  unfold ynp
  split <;> omega
theorem flt_neg {q : Int} : flt (-1) q = q := by unfold flt; rw [if_neg (by decide)]
theorem flt_pos {f q : Int} (h : 0 ≤ f) : flt f q = f := by unfold flt; rw [if_pos h]
section SCAN2
variable {S L : Nat} {F G : Nat → Nat → Int} {h : Nat → Nat → Option Nat} {Q : Option V2 → W2 → Prop} {tp : Nat → Int} {N : Nat}
theorem CS.pos {x : YR} (c : CS tp N F x) : ∃ p : Nat, p ≤ N ∧ F 284 2 = (p : Int) ∧ (x.1 = true → p = x.2) := by
  obtain ⟨t, b, g, f⟩ := c
  cases e : x.1
  · obtain ⟨q1, p, q2, q3⟩ := f e
    exact ⟨p, q2, q3, fun k => by simp at k⟩
  · exact ⟨x.2, b, (g e).1, fun _ => rfl⟩
theorem CS.fl3 {x : YR} (c : CS tp N F x) : -1 ≤ F 284 3 ∧ F 284 3 ≤ 90 := by
  obtain ⟨t, b, g, f⟩ := c
  have := t.2.1
  cases e : x.1
  · have := (f e).1
    omega
  · have := (g e).2
    omega
theorem CS.mk {x : YR} {x' : YR} {F' : Nat → Nat → Int} {p p' : Nat} (c : CS tp N F x) (t : TA tp N F') (hp : x.1 = true → p = x.2) (h1 : F' 284 2 = (p' : Int)) (h2 : p' ≤ N) {y : YR} (ey : x' = yrb x (fun _ => y)) (ok : y.1 = true → y.2 = p' ∧ F' 284 3 = F 284 3) (no : y.1 = false → y.2 ≤ N ∧ F' 284 3 = flt (F 284 3) (y.2 : Int)) : CS tp N F' x' := by
  have hf := c.fl3
  obtain ⟨tt, b, g, f⟩ := c
  subst ey
  unfold yrb
  cases e : x.1
  · obtain ⟨q1, -⟩ := f e
    rw [if_neg (by simp)]
    have h3 : F' 284 3 = F 284 3 := by
      cases e2 : y.1
      · rw [(no e2).2, flt_pos (by omega)]
      · exact (ok e2).2
    exact ⟨t, b, fun k => by rw [e] at k; simp at k, fun _ => ⟨by rw [h3]; exact q1, p', h2, h1⟩⟩
  · obtain ⟨q1, q2⟩ := g e
    rw [if_pos rfl]
    cases e2 : y.1
    · obtain ⟨n1, n2⟩ := no e2
      rw [q2, flt_neg] at n2
      exact ⟨t, n1, fun k => by rw [e2] at k; simp at k, fun _ => ⟨n2, p', h2, h1⟩⟩
    · obtain ⟨n1, n2⟩ := ok e2
      exact ⟨t, by dsimp only; omega, fun _ => ⟨by dsimp only; rw [n1]; exact h1, by rw [n2]; exact q2⟩, fun k => by rw [e2] at k; simp at k⟩
theorem K59s (hh : RfH h) {x : YR} (c : CS tp N F x) {a : Int} (ra : R32 a) (H : ∀ F' : Nat → Nat → Int, CS tp N F' (yrb x (pchr tp N a a)) → FP F F' → Q none (Wd S L F' G h)) : C59_0 a (Wd S L F G h) Q := by
  obtain ⟨p, hp, ep, hx⟩ := c.pos
  have hf := c.fl3
  have hb := ysk_bd (tp := tp) hp
  refine K59 hh hp c.1 ep (by omega) ra (fun F' p' t ok no e2 hp' fp => H F' ?_ fp)
  refine c.mk (p := p) (y := pchr tp N a a p) t hx e2 hp' ?_ ?_ ?_
  · unfold yrb
    cases e : x.1
    · rfl
    · rw [hx e]
  · by_cases k : yok tp N a a (ysk tp N p)
    · rw [pchr_t k]; exact fun _ => ⟨(ok k).1.symm, (ok k).2⟩
    · rw [pchr_f k]; exact fun q => by simp at q
  · by_cases k : yok tp N a a (ysk tp N p)
    · rw [pchr_t k]; exact fun q => by simp at q
    · rw [pchr_f k]; exact fun _ => ⟨hb.2, (no k).2⟩
theorem K60s (hh : RfH h) {x : YR} (c : CS tp N F x) {a b : Int} (ra : 0 ≤ a ∧ a ≤ 9) (rb : 0 ≤ b ∧ b ≤ 9) (H : ∀ (F' : Nat → Nat → Int) (v : Int), CS tp N F' (yrb x (pchr tp N (48 + a) (48 + b))) → ((yrb x (pchr tp N (48 + a) (48 + b))).1 = true → v = tp (ysk tp N x.2) - 48 ∧ a ≤ v ∧ v ≤ b) → FP F F' → Q (some (vi v)) (Wd S L F' G h)) : C60_0 a b (Wd S L F G h) Q := by
  obtain ⟨p, hp, ep, hx⟩ := c.pos
  have hf := c.fl3
  have hb := ysk_bd (tp := tp) hp
  refine K60 hh hp c.1 ep (by omega) ra rb (fun F' p' v t ok no e2 hp' fp => H F' v ?_ (fun q => ?_) fp)
  · refine c.mk (p := p) (y := pchr tp N (48 + a) (48 + b) p) t hx e2 hp' ?_ ?_ ?_
    · unfold yrb
      cases e : x.1
      · rfl
      · rw [hx e]
    · by_cases k : yok tp N (48 + a) (48 + b) (ysk tp N p)
      · rw [pchr_t k]; exact fun _ => ⟨(ok k).1.symm, (ok k).2.1⟩
      · rw [pchr_f k]; exact fun q => by simp at q
    · by_cases k : yok tp N (48 + a) (48 + b) (ysk tp N p)
      · rw [pchr_t k]; exact fun q => by simp at q
      · rw [pchr_f k]; exact fun _ => ⟨hb.2, (no k).2.1⟩
  · unfold yrb at q
    cases e : x.1
    · rw [if_neg (by rw [e]; simp)] at q
      rw [e] at q; simp at q
    · rw [if_pos e, ← hx e] at q
      rw [← hx e]
      by_cases k : yok tp N (48 + a) (48 + b) (ysk tp N p)
      · have k2 := k.2
        have := (ok k).2.2
        omega
      · rw [pchr_f k] at q; simp at q
theorem K61s (hh : RfH h) {x : YR} (c : CS tp N F x) (H : ∀ (F' : Nat → Nat → Int) (v : Int), CS tp N F' (yrb x (pnum tp N)) → ((yrb x (pnum tp N)).1 = true → v = ynv tp N (ysk tp N x.2) ∧ 1 ≤ v ∧ v ≤ 12) → FP F F' → Q (some (vi v)) (Wd S L F' G h)) : C61_0 (Wd S L F G h) Q := by
  obtain ⟨p, hp, ep, hx⟩ := c.pos
  have hf := c.fl3
  have hb := ysk_bd (tp := tp) hp
  refine K61 hh hp c.1 ep (by omega) (fun F' p' v t ok no e2 hp' fp => H F' v ?_ (fun q => ?_) fp)
  · refine c.mk (p := p) (y := pnum tp N p) t hx e2 hp' ?_ ?_ ?_
    · unfold yrb
      cases e : x.1
      · rfl
      · rw [hx e]
    · by_cases k : ynk tp N (ysk tp N p)
      · rw [pnum_t k]; exact fun _ => ⟨(ok k).1.symm, (ok k).2.1⟩
      · rw [pnum_f k]; exact fun q => by simp at q
    · by_cases k : ynk tp N (ysk tp N p)
      · rw [pnum_t k]; exact fun q => by simp at q
      · rw [pnum_f k]; exact fun _ => ⟨hb.2, no k⟩
  · unfold yrb at q
    cases e : x.1
    · rw [if_neg (by rw [e]; simp)] at q
      rw [e] at q; simp at q
    · rw [if_pos e, ← hx e] at q
      rw [← hx e]
      by_cases k : ynk tp N (ysk tp N p)
      · have k2 := k.2
        have := (ok k).2.2
        omega
      · rw [pnum_f k] at q; simp at q
/-! the reference -/
def ych (tp : Nat → Int) (N q : Nat) : Int := if q < N then tp q else 0
theorem ych_bd (t : TB tp N F) (q : Nat) : 0 ≤ ych tp N q ∧ ych tp N q ≤ 126 ∧ (q < N → 32 ≤ ych tp N q ∧ ych tp N q = tp q) ∧ (¬ q < N → ych tp N q = 0) := by
  unfold ych
  by_cases c : q < N
  · have := t.2.2 q c
    rw [if_pos c]
    omega
  · rw [if_neg c]
    omega
theorem L172 (hh : RfH h) : ∀ (m p : Nat) (F : Nat → Nat → Int), p + m = N → TB tp N F → F 297 22 = (p : Int) → (∀ F' : Nat → Nat → Int, F' 297 22 = ((psk tp m p : Nat) : Int) → (∀ k, k ≠ 22 → F' 297 k = F 297 k) → (∀ q, q ≠ 297 → F' q = F q) → Q (some (vi (ych tp N (psk tp m p)))) (Wd S L F' G h)) → C172_0 (Wd S L F G h) Q
  | 0, p, F, e, t, ep, H => by
    have t1 := t.1
    have t2 := t.2.1
    refine T172_0 hh ⟨by omega, by omega, ?_⟩
    rw [if_pos (by omega)]
    have := H F ep (fun k _ => rfl) (fun q _ => rfl)
    rw [show ych tp N (psk tp 0 p) = 0 from if_neg (by show ¬ p < N; omega)] at this
    exact this
  | m + 1, p, F, e, t, ep, H => by
    have t1 := t.1
    have t2 := t.2.1
    obtain ⟨t3, t4, t5⟩ := t.2.2 p (by omega)
    have e2 : (F 297 22).toNat = p := by omega
    have es : psk tp (m + 1) p = (if tp p = 32 then psk tp m (p + 1) else p) := rfl
    refine T172_0 hh ⟨by omega, by omega, ?_⟩
    rw [if_neg (by omega), e2, t3]
    refine ⟨by omega, by omega, ?_⟩
    rw [es] at H
    by_cases c : tp p = 32
    · rw [if_pos c] at H ⊢
      have fp : FQ F (am_up F 297 22 (F 297 22 + 1)) := FQ.up (Or.inl rfl)
      exact L172 hh m (p + 1) _ (by omega) (t.fq fp) (by rw [up_at, if_pos rfl]; omega) (fun F' a b c => H F' a (fun k hk => by rw [b k hk, up_at, if_neg hk]) (fun q hq => by rw [c q hq, up_out hq]))
    · rw [if_neg c] at H ⊢
      have := H F ep (fun k _ => rfl) (fun q _ => rfl)
      rw [show ych tp N p = tp p from if_pos (by omega)] at this
      exact this
theorem K172 (hh : RfH h) {p : Nat} (hp : p ≤ N) (t : TB tp N F) (ep : F 297 22 = (p : Int)) (H : ∀ F' : Nat → Nat → Int, TB tp N F' → F' 297 22 = ((ysk tp N p : Nat) : Int) → (∀ k, k ≠ 22 → F' 297 k = F 297 k) → (∀ q, q ≠ 297 → F' q = F q) → Q (some (vi (ych tp N (ysk tp N p)))) (Wd S L F' G h)) : C172_0 (Wd S L F G h) Q :=
  L172 hh (N - p) p F (by omega) t ep (fun F' a b c => H F' (t.cong (b 7 (by decide)) (c 302 (by decide))) a b c)
/-- the reference at a place past the blanks: steps on, or a fault -/
def ystep (x : YR) (N : Nat) (tp : Nat → Int) (ok : Prop) (F' : Nat → Nat → Int) : Prop := (x.1 = true → (ok → MS tp N F' (true, ysk tp N x.2 + 1)) ∧ (¬ ok → MS tp N F' (false, ysk tp N x.2))) ∧ (x.1 = false → MS tp N F' x)
theorem K174s (hh : RfH h) {x : YR} {F0 : Nat → Nat → Int} (c : MS tp N F0 x) (t : TB tp N F) (e22 : F 297 22 = ((ysk tp N x.2 : Nat) : Int)) (e23 : F 297 23 = F0 297 23) {a : Int} {ok : Prop} (ha : (a = 1 ∧ ok) ∨ (a = 0 ∧ ¬ ok)) (hok : ok → ysk tp N x.2 < N) (H : ∀ F' : Nat → Nat → Int, ystep x N tp ok F' → F' 297 24 = F 297 24 → FQ F F' → Q none (Wd S L F' G h)) : C174_0 a (Wd S L F G h) Q := by
  obtain ⟨t0, b, e0, g, f⟩ := c
  have hb := ysk_bd (tp := tp) b
  refine T174_0 hh ?_
  cases e : x.1
  · obtain ⟨f1, f2⟩ := f e
    have es := ysk_stop f2
    refine ⟨by omega, ?_⟩
    rw [if_neg (by omega)]
    have fq : FQ F (am_up (am_up F 297 23 1) 297 22 (F 297 22 + 0)) := (FQ.up (Or.inr (Or.inl rfl))).trans (FQ.up (Or.inl rfl))
    exact H _ ⟨fun k => by rw [e] at k; simp at k, fun _ => ⟨t.fq fq, b, by rw [up_at, if_pos rfl, e22, es]; omega, fun k => by rw [e] at k; simp at k, fun _ => ⟨by rw [up_at, if_neg (by decide), up_at, if_pos rfl], f2⟩⟩⟩ (by rw [up_at, if_neg (by decide), up_at, if_neg (by decide)]) fq
  · have g1 := g e
    refine ⟨by omega, ?_⟩
    rw [if_pos (by omega)]
    rcases ha with ⟨ha, ho⟩ | ⟨ha, ho⟩
    · refine ⟨by omega, ?_⟩
      rw [if_neg (by omega)]
      have hl := hok ho
      have fq : FQ F (am_up (am_up F 297 23 0) 297 22 (F 297 22 + 1)) := (FQ.up (Or.inr (Or.inl rfl))).trans (FQ.up (Or.inl rfl))
      exact H _ ⟨fun _ => ⟨fun _ => ⟨t.fq fq, by dsimp only; omega, by rw [up_at, if_pos rfl, e22]; dsimp only; omega, fun _ => by rw [up_at, if_neg (by decide), up_at, if_pos rfl], fun k => by simp at k⟩, fun k => absurd ho k⟩, fun k => by rw [e] at k; simp at k⟩ (by rw [up_at, if_neg (by decide), up_at, if_neg (by decide)]) fq
    · refine ⟨by omega, ?_⟩
      rw [if_pos ha]
      have fq : FQ F (am_up (am_up F 297 23 1) 297 22 (F 297 22 + 0)) := (FQ.up (Or.inr (Or.inl rfl))).trans (FQ.up (Or.inl rfl))
      exact H _ ⟨fun _ => ⟨fun k => absurd k ho, fun _ => ⟨t.fq fq, hb.2, by rw [up_at, if_pos rfl, e22]; dsimp only; omega, fun k => by simp at k, fun _ => ⟨by rw [up_at, if_neg (by decide), up_at, if_pos rfl], fun q => ysk_end b q⟩⟩⟩, fun k => by rw [e] at k; simp at k⟩ (by rw [up_at, if_neg (by decide), up_at, if_neg (by decide)]) fq
theorem ystep_chr {x : YR} {a b : Int} {F' : Nat → Nat → Int} (s : ystep x N tp (yok tp N a b (ysk tp N x.2)) F') : MS tp N F' (yrb x (pchr tp N a b)) := by
  unfold yrb
  cases e : x.1
  · rw [if_neg (by simp)]
    exact s.2 e
  · rw [if_pos rfl]
    by_cases k : yok tp N a b (ysk tp N x.2)
    · rw [pchr_t k]; exact (s.1 e).1 k
    · rw [pchr_f k]; exact (s.1 e).2 k
theorem K177s (hh : RfH h) {x : YR} (c : MS tp N F x) {a : Int} (ra : 33 ≤ a ∧ a ≤ 126) (H : ∀ F' : Nat → Nat → Int, MS tp N F' (yrb x (pchr tp N a a)) → F' 297 24 = F 297 24 → FQ F F' → Q none (Wd S L F' G h)) : C177_0 a (Wd S L F G h) Q := by
  refine T177_0 hh (K172 hh c.2.1 c.1 c.2.2.1 (fun F1 t1 e1 k1 f1 => ⟨_, _, rfl, rfl, ?_⟩))
  obtain ⟨b1, b2, b3, b4⟩ := ych_bd t1 (ysk tp N x.2)
  have fq : FQ F F1 := ⟨fun k a _ _ => k1 k a, f1⟩
  have key : (if ych tp N (ysk tp N x.2) = a then (1 : Int) else 0) = 1 ∧ yok tp N a a (ysk tp N x.2) ∨ (if ych tp N (ysk tp N x.2) = a then (1 : Int) else 0) = 0 ∧ ¬ yok tp N a a (ysk tp N x.2) := by
    unfold yok
    by_cases q : ysk tp N x.2 < N
    · have := b3 q
      split
      · left; omega
      · right; omega
    · have := b4 q
      rw [if_neg (by omega)]
      right; omega
  refine ⟨by omega, by omega, ?_⟩
  split
  · rename_i q
    rw [if_pos q] at key
    refine K174s hh c t1 e1 (k1 23 (by decide)) key (fun o => o.1) (fun F2 s e24 fq2 => ⟨_, rfl, rfl, ?_⟩)
    exact H F2 (ystep_chr s) (by rw [e24, k1 24 (by decide)]) (fq.trans fq2)
  · rename_i q
    rw [if_neg q] at key
    refine K174s hh c t1 e1 (k1 23 (by decide)) key (fun o => o.1) (fun F2 s e24 fq2 => ⟨_, rfl, rfl, ?_⟩)
    exact H F2 (ystep_chr s) (by rw [e24, k1 24 (by decide)]) (fq.trans fq2)
theorem K175s (hh : RfH h) {x : YR} (c : MS tp N F x) {a b : Int} (ra : 0 ≤ a ∧ a ≤ 9) (rb : 0 ≤ b ∧ b ≤ 9) (H : ∀ F' : Nat → Nat → Int, MS tp N F' (yrb x (pchr tp N (48 + a) (48 + b))) → ((yrb x (pchr tp N (48 + a) (48 + b))).1 = true → F' 297 24 = tp (ysk tp N x.2) - 48) → FQ F F' → Q none (Wd S L F' G h)) : C175_0 a b (Wd S L F G h) Q := by
  refine T175_0 hh (K172 hh c.2.1 c.1 c.2.2.1 (fun F1 t1 e1 k1 f1 => ⟨_, _, rfl, rfl, ?_⟩))
  obtain ⟨b1, b2, b3, b4⟩ := ych_bd t1 (ysk tp N x.2)
  have fq : FQ F F1 := ⟨fun k a _ _ => k1 k a, f1⟩
  have fq2 : FQ F1 (am_up F1 297 24 (ych tp N (ysk tp N x.2) - 48)) := FQ.up (Or.inr (Or.inr rfl))
  have vl : (yrb x (pchr tp N (48 + a) (48 + b))).1 = true → ych tp N (ysk tp N x.2) = tp (ysk tp N x.2) := fun q => by
    unfold yrb at q
    cases e : x.1
    · rw [if_neg (by rw [e]; simp)] at q
      rw [e] at q; simp at q
    · rw [if_pos e] at q
      by_cases k : yok tp N (48 + a) (48 + b) (ysk tp N x.2)
      · exact (b3 k.1).2
      · rw [pchr_f k] at q; simp at q
  have go : ∀ i : Int, (i = 1 ∧ yok tp N (48 + a) (48 + b) (ysk tp N x.2)) ∨ (i = 0 ∧ ¬ yok tp N (48 + a) (48 + b) (ysk tp N x.2)) → C174_0 i (Wd S L (am_up F1 297 24 (ych tp N (ysk tp N x.2) - 48)) G h) (fun v w1 => ∃ (F7 : Nat → Nat → Int), v = none ∧ w1 = (Wd S L F7 G h) ∧ Q (none) (Wd S L F7 G h)) := fun i hi => by
    refine K174s hh c (t1.fq fq2) (by rw [up_at, if_neg (by decide)]; exact e1) (by rw [up_at, if_neg (by decide)]; exact k1 23 (by decide)) hi (fun o => o.1) (fun F2 s e24 fq3 => ⟨_, rfl, rfl, ?_⟩)
    exact H F2 (ystep_chr s) (fun q => by rw [e24, up_at, if_pos rfl, vl q]) (fq.trans (fq2.trans fq3))
  have hk : yok tp N (48 + a) (48 + b) (ysk tp N x.2) ↔ (48 + a ≤ ych tp N (ysk tp N x.2) ∧ ych tp N (ysk tp N x.2) ≤ 48 + b) := by
    unfold yok
    by_cases q : ysk tp N x.2 < N
    · have := b3 q
      omega
    · have := b4 q
      omega
  refine ⟨by omega, by omega, by omega, ?_⟩
  by_cases c1 : ych tp N (ysk tp N x.2) - 48 < a
  · rw [if_pos c1]
    exact go 0 (Or.inr ⟨rfl, fun k => by have := hk.1 k; omega⟩)
  rw [if_neg c1]
  by_cases c2 : b < ych tp N (ysk tp N x.2) - 48
  · rw [if_pos c2]
    exact go 0 (Or.inr ⟨rfl, fun k => by have := hk.1 k; omega⟩)
  · rw [if_neg c2]
    exact go 1 (Or.inl ⟨rfl, hk.2 (by omega)⟩)
end SCAN2
