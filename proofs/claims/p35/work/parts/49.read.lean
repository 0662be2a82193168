/-! read in the law -/
def ylt (tp : Nat → Int) (s : Nat) : Nat → List Int
  | 0 => []
  | n + 1 => tp (s + n) :: ylt tp s n
def yltrH : List Int → Int
  | [] => 0
  | c :: l => if yltrH l ≤ 1000000000000 then 27 * yltrH l + c - 97 + 1 else yltrH l
def Lt (l : List Int) : Prop := ∀ c, c ∈ l → 97 ≤ c ∧ c ≤ 122
theorem yltrH_bd : ∀ {l : List Int}, Lt l → 0 ≤ yltrH l ∧ yltrH l ≤ 27000000000100
  | [], _ => by decide
  | c :: l, h => by
    have h1 := yltrH_bd (l := l) (fun x hx => h x (List.mem_cons_of_mem c hx))
    have h2 := h c List.mem_cons_self
    unfold yltrH
    split <;> omega
theorem yltrH_inj : ∀ {a b : List Int}, Lt a → Lt b → yltrH a = yltrH b → yltrH b ≤ 1000000000000 → a = b
  | [], [], _, _, _, _ => rfl
  | [], d :: l, _, hb, e, hl => by
    have h1 := (yltrH_bd (l := l) (fun x hx => hb x (List.mem_cons_of_mem d hx))).1
    have h2 := hb d List.mem_cons_self
    have e0 : yltrH [] = 0 := rfl
    have e1 : yltrH (d :: l) = if yltrH l ≤ 1000000000000 then 27 * yltrH l + d - 97 + 1 else yltrH l := rfl
    by_cases c : yltrH l ≤ 1000000000000
    · rw [if_pos c] at e1; omega
    · rw [if_neg c] at e1; omega
  | d :: l, [], ha, _, e, hl => by
    have h1 := (yltrH_bd (l := l) (fun x hx => ha x (List.mem_cons_of_mem d hx))).1
    have h2 := ha d List.mem_cons_self
    have e0 : yltrH [] = 0 := rfl
    have e1 : yltrH (d :: l) = if yltrH l ≤ 1000000000000 then 27 * yltrH l + d - 97 + 1 else yltrH l := rfl
    by_cases c : yltrH l ≤ 1000000000000
    · rw [if_pos c] at e1; omega
    · rw [if_neg c] at e1; omega
  | d :: l, d2 :: l2, ha, hb, e, hl => by
    have h1 := (yltrH_bd (l := l) (fun x hx => ha x (List.mem_cons_of_mem d hx))).1
    have h2 := ha d List.mem_cons_self
    have h3 := (yltrH_bd (l := l2) (fun x hx => hb x (List.mem_cons_of_mem d2 hx))).1
    have h4 := hb d2 List.mem_cons_self
    have e1 : yltrH (d :: l) = if yltrH l ≤ 1000000000000 then 27 * yltrH l + d - 97 + 1 else yltrH l := rfl
    have e2 : yltrH (d2 :: l2) = if yltrH l2 ≤ 1000000000000 then 27 * yltrH l2 + d2 - 97 + 1 else yltrH l2 := rfl
    by_cases c : yltrH l ≤ 1000000000000
    · rw [if_pos c] at e1
      by_cases c2 : yltrH l2 ≤ 1000000000000
      · rw [if_pos c2] at e2
        have q1 : d = d2 := by omega
        have q2 : yltrH l = yltrH l2 := by omega
        rw [q1, yltrH_inj (fun x hx => ha x (List.mem_cons_of_mem d hx)) (fun x hx => hb x (List.mem_cons_of_mem d2 hx)) q2 c2]
      · rw [if_neg c2] at e2; omega
    · rw [if_neg c] at e1; omega
theorem ylt_eq {f g : Nat → Int} {a b : Nat} : ∀ {n m : Nat}, ylt f a n = ylt g b m → n = m ∧ ∀ k, k < n → f (a + k) = g (b + k)
  | 0, 0, _ => ⟨rfl, fun k hk => by omega⟩
  | 0, m + 1, e => by simp [ylt] at e
  | n + 1, 0, e => by simp [ylt] at e
  | n + 1, m + 1, e => by
    have e' : f (a + n) :: ylt f a n = g (b + m) :: ylt g b m := e
    injection e' with e1 e2
    obtain ⟨h1, h2⟩ := ylt_eq e2
    subst h1
    refine ⟨rfl, fun k hk => ?_⟩
    by_cases c : k = n
    · rw [c]; exact e1
    · exact h2 k (by omega)
theorem ylt_cg {f g : Nat → Int} {a b : Nat} : ∀ {n : Nat}, (∀ k, k < n → f (a + k) = g (b + k)) → ylt f a n = ylt g b n
  | 0, _ => rfl
  | n + 1, h => by
    show f (a + n) :: ylt f a n = g (b + n) :: ylt g b n
    rw [h n (by omega), ylt_cg (fun k hk => h k (by omega))]
theorem ylt_Lt {f : Nat → Int} {a : Nat} : ∀ {n : Nat}, (∀ k, k < n → 97 ≤ f (a + k) ∧ f (a + k) ≤ 122) → Lt (ylt f a n)
  | 0, _ => fun c hc => by simp [ylt] at hc
  | n + 1, h => fun c hc => by
    have hc' : c ∈ f (a + n) :: ylt f a n := hc
    rcases List.mem_cons.mp hc' with q | q
    · rw [q]; exact h n (by omega)
    · exact ylt_Lt (fun k hk => h k (by omega)) c q
def yst (j : Nat) : List Int := ylt (fun k => (y_str j).getD k 0) 0 (y_str j).length
theorem yst_Lt : Lt (yst 0) ∧ Lt (yst 1) ∧ Lt (yst 2) ∧ Lt (yst 3) := by
  refine ⟨ylt_Lt (by decide), ylt_Lt (by decide), ylt_Lt (by decide), ylt_Lt (by decide)⟩
theorem yst_h : yltrH (yst 0) = 13903 ∧ yltrH (yst 1) = 464134 ∧ yltrH (yst 2) = 3544025 ∧ yltrH (yst 3) = 335086736 := by decide
theorem ysame_h {tp : Nat → Int} {s e j : Nat} (hse : s ≤ e) (hl : ∀ k, s ≤ k → k < e → 97 ≤ tp k ∧ tp k ≤ 122) (hj : Lt (yst j)) (hb : yltrH (yst j) ≤ 1000000000000) : (yltrH (ylt tp s (e - s)) = yltrH (yst j)) = ysame tp s e j := by
  have hL : Lt (ylt tp s (e - s)) := ylt_Lt (fun k hk => hl (s + k) (by omega) (by omega))
  refine propext ⟨fun q => ?_, fun q => ?_⟩
  · obtain ⟨h1, h2⟩ := ylt_eq (yltrH_inj hL hj q hb)
    refine ⟨by omega, fun k hk => ?_⟩
    have := h2 k (by omega)
    rw [this, Nat.zero_add]
  · obtain ⟨h1, h2⟩ := q
    have h3 : e - s = (y_str j).length := by omega
    rw [h3]
    unfold yst
    rw [ylt_cg (fun k hk => by rw [h2 k hk, Nat.zero_add])]
section READ
variable {S L : Nat} {F G : Nat → Nat → Int} {h : Nat → Nat → Option Nat} {Q : Option V2 → W2 → Prop} {tp : Nat → Int} {N : Nat}
/-! what read tells -/
def sLine (tp : Nat → Int) (N : Nat) (r : Row) (k : Int) (e : Nat) : Int × Row := if k = 1 then sSays r (yline tp N e).2.1 (yline tp N e).2.2.1 (yline tp N e).2.2.2 else if k = 2 then sWrd r (tp (ysk tp N e) - 48) (ywl tp N (pwh tp N e).2).2.1 (ywl tp N (pwh tp N e).2).2.2 else if k = 3 then sFrame r (ynv tp N (ysk tp N e)) (tp (ysk tp N (yrb (pnum tp N e) (pchr tp N 47 47)).2) - 48) else sWindow r (tp (ysk tp N e) - 48)
def sRead (tp : Nat → Int) (N : Nat) (r : Row) : Int × Row := if (pall tp N).1 = true then sLine tp N r (ykn tp N 0) (pkind tp N 0).2 else (-20 - ((pall tp N).2 : Int), r)
theorem pchr_le {a b : Int} {p : Nat} (hp : p ≤ N) : (pchr tp N a b p).2 ≤ N := by
  have hb := ysk_bd (tp := tp) hp
  by_cases c : yok tp N a b (ysk tp N p)
  · rw [pchr_t c]; have := c.1; dsimp only; omega
  · rw [pchr_f c]; exact hb.2
theorem pnum_le {p : Nat} (hp : p ≤ N) : (pnum tp N p).2 ≤ N := by
  have hb := ysk_bd (tp := tp) hp
  by_cases c : ynk tp N (ysk tp N p)
  · rw [pnum_t c]; exact ynp_le c.1.1
  · rw [pnum_f c]; exact hb.2
theorem pkind_le : (pkind tp N 0).2 ≤ N := by
  have hb := ysk_bd (tp := tp) (N := N) (p := 0) (by omega)
  have := pke_bd (tp := tp) (N := N) (N - ysk tp N 0) (ysk tp N 0) hb.2
  unfold pkind
  split
  · exact hb.2
  · exact this.2.1
theorem yrb_le {x : YR} {f : Nat → YR} (hx : x.2 ≤ N) (hf : (f x.2).2 ≤ N) : (yrb x f).2 ≤ N := by
  unfold yrb
  split
  · exact hf
  · exact hx
theorem pwh_le {p : Nat} (hp : p ≤ N) : (pwh tp N p).2 ≤ N := yrb_le (pchr_le hp) (pchr_le (pchr_le hp))
theorem word_ok {e : Nat} (he : e ≤ N) (g : (pwrd tp N e).1 = true) : (1 ≤ (ywl tp N (pwh tp N e).2).2.1 ∧ (ywl tp N (pwh tp N e).2).2.1 ≤ 6) ∧ ∀ k, k < (ywl tp N (pwh tp N e).2).2.1 → 0 ≤ (ywl tp N (pwh tp N e).2).2.2 k ∧ (ywl tp N (pwh tp N e).2).2.2 k < 12 := by
  have hb := ysk_bd (tp := tp) (pwh_le (tp := tp) he)
  have ok := pwl_ok (tp := tp) (N := N) 7 (ysk tp N (pwh tp N e).2) 0 (fun _ => 0) hb.2 (by omega) (fun k hk => by omega)
  have ew : pwl tp N 7 (ysk tp N (pwh tp N e).2) 0 (fun _ => 0) = ywl tp N (pwh tp N e).2 := rfl
  rw [ew] at ok
  have g2 := (yrb_1 g).2
  unfold pwt at g2
  have : (ywl tp N (pwh tp N e).2).2.1 ≠ 0 := fun q => by
    rw [if_pos q] at g2
    simp at g2
  exact ⟨⟨by omega, ok.2.2.1⟩, ok.2.2.2.2.2⟩
theorem word_v {e : Nat} (g : (pwrd tp N e).1 = true) : 1 ≤ tp (ysk tp N e) - 48 ∧ tp (ysk tp N e) - 48 ≤ 9 := by
  have g1 := (yrb_1 (yrb_1 g).1).1
  by_cases c : yok tp N 49 57 (ysk tp N e)
  · have := c.2; omega
  · rw [pchr_f c] at g1; simp at g1
theorem chr_v {a b : Int} {e : Nat} (g : (pchr tp N a b e).1 = true) : a ≤ tp (ysk tp N e) ∧ tp (ysk tp N e) ≤ b := by
  by_cases c : yok tp N a b (ysk tp N e)
  · exact c.2
  · rw [pchr_f c] at g; simp at g
theorem line_ok {e : Nat} (g : (yline tp N e).1.1 = true) : (yline tp N e).2.1 ≤ 12 ∧ PG (yline tp N e).2.1 (yline tp N e).2.2.1 (yline tp N e).2.2.2 := by
  have := pline_ok (tp := tp) (N := N) 13 e 0 (fun _ => 0) (fun _ => 0) (fun k hk => by omega) g
  exact ⟨this.2.1, this.2.2⟩
theorem Yvd_sLine {r : Row} (v : Yvd r) {k : Int} {e : Nat} (he : e ≤ N) (g : (pbody tp N k e).1 = true) : Yvd (sLine tp N r k e).2 ∧ R32 (sLine tp N r k e).1 := by
  unfold pbody at g
  unfold sLine
  by_cases k1 : k = 1
  · rw [if_pos k1] at g ⊢
    have := line_ok g
    exact ⟨Yvd_sSays v this.1 this.2, R32_sSays this.1⟩
  rw [if_neg k1] at g ⊢
  by_cases k2 : k = 2
  · rw [if_pos k2] at g ⊢
    obtain ⟨a, b⟩ := word_ok he g
    exact ⟨Yvd_sWrd v (word_v g) a b, R32_sWrd v⟩
  rw [if_neg k2] at g ⊢
  by_cases k3 : k = 3
  · rw [if_pos k3]
    exact ⟨Yvd_sFrame v _ _, R32_sFrame v _ _⟩
  · rw [if_neg k3]
    exact ⟨Yvd_sWindow v _, R32_sWindow v _⟩
theorem pall_1 (g : (pall tp N).1 = true) : (pkind tp N 0).1 = true ∧ (pbody tp N (ykn tp N 0) (pkind tp N 0).2).1 = true ∧ 1 ≤ ykn tp N 0 ∧ ykn tp N 0 ≤ 4 := by
  have g1 := yrb_1 g
  have bd : 0 ≤ ykn tp N 0 ∧ ykn tp N 0 ≤ 4 := ykd_bd _ _ _
  refine ⟨g1.1, (yrb_1 g1.2).1, ?_, bd.2⟩
  have h := g1.1
  unfold pkind at h
  by_cases c : ykn tp N 0 = 0
  · rw [if_pos c] at h; simp at h
  · omega
theorem K99 (hh : RfH h) {r : Row} (t : Ytk F 1 r) (v : Yvd r) {k : Int} {e : Nat} (he : e ≤ N) (hk : 1 ≤ k ∧ k ≤ 4) (g : (pbody tp N k e).1 = true) (cc : CC tp N k e F)
    (H : ∀ (x : Int) (r' : Row) (F' : Nat → Nat → Int), sLine tp N r k e = (x, r') → Ytk F' 1 r' → (∀ p, p = 0 ∨ 19 ≤ p → F' p = F p) → Q (some (vi x)) (Wd S L F' G h)) : C99_0 (Wd S L F G h) Q := by
  obtain ⟨a0, a1, a2, a3, a4⟩ := cc
  unfold pbody at g
  unfold sLine at H
  refine T99_0 hh ?_
  rw [a0]
  refine ⟨by omega, ?_⟩
  by_cases k1 : k = 1
  · rw [if_pos k1]
    rw [if_pos k1] at g H
    obtain ⟨b1, b2⟩ := line_ok g
    obtain ⟨d1, d2⟩ := a1 k1
    rw [d1]
    exact K36 hh t v b1 b2 d2 (fun x r' F' q1 q2 q3 => ⟨_, _, rfl, rfl, H x r' F' q1 q2 q3⟩)
  rw [if_neg k1]
  rw [if_neg k1] at g H
  by_cases k2 : k = 2
  · rw [if_pos k2]
    rw [if_pos k2] at g H
    obtain ⟨b1, b2⟩ := word_ok he g
    obtain ⟨d1, d2, d3, d4, d5⟩ := a2 k2
    rw [d1, d4]
    exact K37 hh t v b1 b2 d5 (fun x r' F' q1 q2 q3 => ⟨_, _, rfl, rfl, H x r' F' q1 q2 q3⟩)
  rw [if_neg k2]
  rw [if_neg k2] at g H
  by_cases k3 : k = 3
  · rw [if_pos k3]
    rw [if_pos k3] at g H
    obtain ⟨d1, d2, d3, d4, d5, d6⟩ := a3 k3
    refine K34 hh t v (by omega) (by omega) (fun x r' F' q1 q2 q3 => ⟨_, _, rfl, rfl, H x r' F' ?_ q2 q3⟩)
    rw [← d1, ← d2]; exact q1
  · rw [if_neg k3, if_pos (by omega)]
    rw [if_neg k3] at g H
    obtain ⟨d1, d2, d3⟩ := a4 (by omega)
    refine K35 hh t v (by omega) (fun x r' F' q1 q2 q3 => ⟨_, _, rfl, rfl, H x r' F' ?_ q2 q3⟩)
    rw [← d1]; exact q1
theorem K86 (hh : RfH h) (ta : TA tp N F) {r : Row} {n : Nat} {R : Nat → Row} (c : Yc F h r n R)
    (H : ∀ (F' : Nat → Nat → Int) (h' : Nat → Nat → Option Nat), RfH h' → Yc F' h' (sRead tp N r).2 (if (sRead tp N r).1 < 0 then n else pushN n) (if (sRead tp N r).1 < 0 then R else pushR n R r) → F' 284 1 = 0 → (∀ p, p = 0 ∨ 147 ≤ p → p ≠ 284 → p ≠ 285 → p ≠ 286 → p ≠ 287 → F' p = F p) → (∀ p, p ≠ 38 → h' p = h p) → Q (some (vi (sRead tp N r).1)) (Wd S L F' G h')) : C86_0 (Wd S L F G h) Q := by
  have v := c.2.1
  refine T86_0 hh (K50 hh ta (fun F1 c1 cc ft => ⟨_, rfl, rfl, ?_⟩))
  have h3 := c1.fl3
  have hN := c1.2.1
  refine ⟨by omega, ?_⟩
  have o1 : ∀ p, p ≠ 284 → p ≠ 285 → p ≠ 286 → p ≠ 287 → am_up F1 284 1 0 p = F p := fun p p1 p2 p3 p4 => by rw [up_out p1, ft.2 p p1 p3 p4]
  have yc : Yc (am_up F1 284 1 0) h r n R := c.cong (fun p h1 h2 => o1 p (by omega) (by omega) (by omega) (by omega)) (fun k hk => rfl) (fun i hi k hk => rfl)
  by_cases g : (pall tp N).1 = true
  · have e3 := (c1.2.2.1 g).2
    rw [if_pos (by omega)]
    obtain ⟨g1, g2, g3, g4⟩ := pall_1 g
    have er : sRead tp N r = sLine tp N r (ykn tp N 0) (pkind tp N 0).2 := by unfold sRead; rw [if_pos g]
    rw [er] at H
    obtain ⟨y1, y2⟩ := Yvd_sLine v (k := ykn tp N 0) (pkind_le (tp := tp) (N := N)) g2
    refine tellC2 (call := C99_0) hh yc y1 y2 (fun F2 Q1 t2 k2 kk => ?_) (fun F' h' r1 r2 r3 r4 => H F' h' r1 r2 (by rw [r3 284 (by omega), up_at, if_pos rfl]) (fun p p0 p1 p2 p3 p4 => by rw [r3 p p0]; exact o1 p p1 p2 p3 p4) r4)
    have cc2 : CC tp N (ykn tp N 0) (pkind tp N 0).2 F2 := by
      obtain ⟨a1, a2, a3, a4, a5⟩ := cc g
      have q4 : ∀ j, j ≠ 1 → F2 284 j = F1 284 j := fun j hj => by rw [k2 284 (by omega), up_at, if_neg hj]
      have q6 : F2 286 = F1 286 := by rw [k2 286 (by omega), up_out (by decide)]
      have q7 : F2 287 = F1 287 := by rw [k2 287 (by omega), up_out (by decide)]
      refine ⟨by rw [q4 4 (by decide)]; exact a1, fun q => ⟨by rw [q4 7 (by decide)]; exact (a2 q).1, fun i hi => by rw [q6, q7]; exact (a2 q).2 i hi⟩, fun q => ?_, fun q => ?_, fun q => ?_⟩
      · rw [q4 8 (by decide), q4 7 (by decide), q6]; exact a3 q
      · rw [q4 8 (by decide), q4 9 (by decide)]; exact a4 q
      · rw [q4 8 (by decide)]; exact a5 q
    exact K99 hh t2 v (pkind_le (tp := tp) (N := N)) ⟨g3, g4⟩ g2 cc2 kk
  · have gf : (pall tp N).1 = false := by
      cases z : (pall tp N).1
      · rfl
      · exact absurd z g
    have e3 := (c1.2.2.2 gf).1
    rw [if_neg (by omega), e3]
    have er : sRead tp N r = (-20 - ((pall tp N).2 : Int), r) := by unfold sRead; rw [if_neg g]
    rw [er] at H
    have hneg : (-20 - ((pall tp N).2 : Int)) < 0 := by omega
    dsimp only at H
    rw [if_pos hneg, if_pos hneg] at H
    exact H _ h hh yc (by rw [up_at, if_pos rfl]) (fun p p0 p1 p2 p3 p4 => o1 p p1 p2 p3 p4) (fun p hp => rfl)
end READ
