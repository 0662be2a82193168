/-! read in the law, the reference's side -/
section READ2
variable {S L : Nat} {F G : Nat → Nat → Int} {h : Nat → Nat → Option Nat} {Q : Option V2 → W2 → Prop} {tp : Nat → Int} {N : Nat}
theorem pline_le : ∀ (m p n : Nat) (sg tm : Row), p ≤ N → (pline tp N m p n sg tm).1.2 ≤ N
  | 0, p, n, sg, tm, hp => (ysk_bd hp).2
  | m + 1, p, n, sg, tm, hp => by
    have hb := ysk_bd (tp := tp) hp
    unfold pline
    by_cases c1 : ysk tp N p < N ∧ 97 ≤ tp (ysk tp N p) ∧ tp (ysk tp N p) ≤ 108 ∧ n < 12
    · rw [if_pos c1]
      have h1 := pnum_le (tp := tp) (N := N) (p := ysk tp N p + 1) (by omega)
      by_cases c2 : (pnum tp N (ysk tp N p + 1)).1 = true
      · rw [if_pos c2]
        have h2 := pchr_le (tp := tp) (a := 44) (b := 44) h1
        by_cases c3 : (pchr tp N 44 44 (pnum tp N (ysk tp N p + 1)).2).1 = true
        · rw [if_pos c3]
          exact pline_le m _ _ _ _ h2
        · rw [if_neg c3]
          exact h2
      · rw [if_neg c2]
        exact h1
    · rw [if_neg c1]
      exact hb.2
theorem pwt_le {p : Nat} (hp : p ≤ N) : (pwt tp N p).2 ≤ N := by
  have hb := ysk_bd (tp := tp) hp
  have ok := pwl_ok (tp := tp) (N := N) 7 (ysk tp N p) 0 (fun _ => 0) hb.2 (by omega) (fun k hk => by omega)
  have h1 : (ywl tp N p).1 ≤ N := ok.2.1
  unfold pwt
  split
  · exact h1
  · exact h1
theorem pend_le {p : Nat} (hp : p ≤ N) : (pend tp N p).2 ≤ N := by
  have hb := ysk_bd (tp := tp) hp
  unfold pend
  split
  · exact hb.2
  · exact hb.2
theorem pbody_le {k : Int} {e : Nat} (he : e ≤ N) : (pbody tp N k e).2 ≤ N := by
  unfold pbody
  split
  · exact pline_le _ _ _ _ _ he
  split
  · exact yrb_le (pwh_le he) (pwt_le (pwh_le he))
  split
  · have h1 := pnum_le (tp := tp) (N := N) he
    have h2 : (yrb (pnum tp N e) (pchr tp N 47 47)).2 ≤ N := yrb_le h1 (pchr_le h1)
    exact yrb_le h2 (pchr_le h2)
  · exact pchr_le he
theorem pall_le : (pall tp N).2 ≤ N := yrb_le pkind_le (yrb_le (pbody_le pkind_le) (pend_le (pbody_le pkind_le)))
theorem R32_sRead {r : Row} (v : Yvd r) (hN : N ≤ 90) (hl : (pall tp N).2 ≤ N) : R32 (sRead tp N r).1 := by
  unfold sRead
  split
  · rename_i g
    exact (Yvd_sLine v (pkind_le (tp := tp) (N := N)) (pall_1 g).2.1).2
  · dsimp only; omega
end READ2
