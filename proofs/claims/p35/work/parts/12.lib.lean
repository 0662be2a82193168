/-! the library's calls, constants of the pool -/
theorem am_fewc {ad : Nat → Nat} {vs r : List Value} {n : Nat} {R : Room} {d : Nat} (h6 : 5 ≤ d) (hlo : 35 * d ≤ R.locals) (h : am_few (vs ++ r)) (hn : n ≤ 60) : ((r.map (am_cv ad)).map fun v => v.category).sum + n ≤ R.locals := by
  rw [am_cvsum]
  unfold am_few at h
  rw [List.map_append, List.sum_append] at h
  omega
theorem am_nfw : nativeFrameWords "java/lang/System" "arraycopy" 5 + 11 ≤ 60 := by decide
theorem am_lkK {o i : Nat} {v : Value} {q : Option (Nat × Nat × Value × Nat)} {z : Nat} (hq : q = lkK[z]?) (h : am_kI o i v q = true) : ∃ x, v = .int x ∧ Jvm.Cond.constant (am_RO o) i x ∈ am_TT := by
  subst hq
  unfold am_kI at h
  split at h
  · rename_i q hq
    obtain ⟨q1, q2, q3, q4⟩ := q
    simp only [Bool.and_eq_true, decide_eq_true_eq] at h
    obtain ⟨⟨⟨h1, h2⟩, h3⟩, h4⟩ := h
    have h1 := Nat.eq_of_beq_eq_true h1
    have h2 := Nat.eq_of_beq_eq_true h2
    try dsimp only at h1 h2 h3
    subst h1; subst h2; subst h3
    have h5 := lkK_ok _ (List.mem_of_getElem? hq)
    cases q3 with
    | int x => exact ⟨x, rfl, am_mem h5 rfl⟩
    | _ => cases h4
  · cases h
theorem am_lkL {o i : Nat} {v : Value} {q : Option (Nat × Nat × Value × Nat)} {z : Nat} (hq : q = lkK[z]?) (h : am_kL o i v q = true) : ∃ x, v = .long x ∧ Jvm.Cond.constantLong (am_RO o) i x ∈ am_TT := by
  subst hq
  unfold am_kL at h
  split at h
  · rename_i q hq
    obtain ⟨q1, q2, q3, q4⟩ := q
    simp only [Bool.and_eq_true, decide_eq_true_eq] at h
    obtain ⟨⟨⟨h1, h2⟩, h3⟩, h4⟩ := h
    have h1 := Nat.eq_of_beq_eq_true h1
    have h2 := Nat.eq_of_beq_eq_true h2
    try dsimp only at h1 h2 h3
    subst h1; subst h2; subst h3
    have h5 := lkK_ok _ (List.mem_of_getElem? hq)
    cases q3 with
    | long x => exact ⟨x, rfl, am_mem h5 rfl⟩
    | _ => cases h4
  · cases h
theorem am_lkS {o i z : Nat} {v : Value} {q : Option (Nat × Nat × String × Nat)} (h : am_kS o i z v q = true) : ∃ tx x, q = some (o, i, tx, x) ∧ v = .ref (9990 + z) := by
  unfold am_kS at h
  split at h
  · rename_i q
    obtain ⟨q1, q2, q3, q4⟩ := q
    simp only [Bool.and_eq_true, decide_eq_true_eq] at h
    obtain ⟨⟨⟨h1, h2⟩, h3⟩, h4⟩ := h
    have h1 := Nat.eq_of_beq_eq_true h1
    have h2 := Nat.eq_of_beq_eq_true h2
    try dsimp only at h1 h2 h3
    subst h1; subst h2
    exact ⟨q3, q4, rfl, h3⟩
  · cases h
section AMO
variable {p : Program} {l : Launch} {e : Env} {R : Room} {s : State} {m : MethodId} {args : Array Value} {below : List Frame} {meth : Method} {c : Code} {H : Heap} {locs : List Loc} {cells slots : Nat} {Q : State → Prop}
variable {D : va_G} {B0 : Nat} {sp : Nat → Nat} {aC : Nat → ClassId} {xs : Nat → Int32} {L : Nat} {r : AR} {d : Nat}
theorem am_o_invokestatic {i : Nat} {nx a b z : Nat} {v : Value} {o pc : Nat} {lv : AL} {st : List Value} {w : AWd} {q : Option Prop} {t : ASt} {ls : Array Slot} (hrc : cells + t.2.2.2.1.1 ≤ R.cells + w.1.1) (hrs : slots + t.2.2.2.1.2.1 ≤ R.slots + w.1.2.1) (C : am_Cx p R s m args meth c D aC B0 sp xs L r d) (h6 : 5 ≤ d) (hc : am_chk r.2.1 r.2.2.2.2.1 pc (.invokestatic i, nx, a, b, z, v) = true) (hx : ax (.invokestatic i, nx, a, b, z, v) o (pc, lv, st, w) = some (q, t)) (hq : am_h q) (hW : am_WH D B0 sp aC xs L w H) (hS : va_S (fun q => B0 ≤ q) s.heap H locs) (hl : am_LH (am_ad B0 sp) ls r.2.2.1 lv) (kk : am_Kk p l e R s m args below meth c cells slots Q D B0 sp aC xs L r.2.2.1 w t) : W p l e R s m args below meth c H locs cells slots Q (F0 m pc ls (st.map (am_cv (am_ad B0 sp)))) := by
  obtain ⟨hx0, hb, hml, hr, hlk, hown, hts, hfr, hlo, hin, hK, hX, hbB, hB, hbs⟩ := C
  obtain ⟨hd, hn, hca⟩ := am_chk_inv hc
  have hn : nx = pc + 3 := hn
  subst hn
  have hca := Bool.and_eq_true_iff.mp hca
  obtain ⟨x9, -, hlw⟩ := am_lkM hca.1
  obtain ⟨q1, hx1, hq1⟩ := am_with_inv hx
  obtain ⟨hfew, hq2⟩ := hq1 hq
  have hmls := hml.trans hl.1.symm
  have h1f : 1 ≤ R.frames := by omega
  match b, hx1, hlw with
  | 6, hx1, hlw =>
    obtain ⟨x, y, r2, rfl, rfl⟩ := am_ii_inv hx1
    have hrc : cells + w.1.1 ≤ R.cells + w.1.1 := hrc
    have hrs : slots + w.1.2.1 ≤ R.slots + w.1.2.1 := hrs
    exact va_mmax hx0 hb hmls hown (hts _ (am_mem hlw rfl)) (hts _ am_w_max.1) (hts _ am_w_max.2.1) (hts _ am_w_max.2.2) h1f (am_fewc (vs := [.int y, .int x]) h6 hlo hfew (by decide)) (by omega) (by omega) hd (kk H locs ls cells slots hW hS hl rfl rfl)
  | 7, hx1, hlw =>
    obtain ⟨x, y, r2, rfl, rfl⟩ := am_ii_inv hx1
    have hrc : cells + w.1.1 ≤ R.cells + w.1.1 := hrc
    have hrs : slots + w.1.2.1 ≤ R.slots + w.1.2.1 := hrs
    exact va_mmin hx0 hb hmls hown (hts _ (am_mem hlw rfl)) (hts _ am_w_min.1) (hts _ am_w_max.2.1) (hts _ am_w_min.2) h1f (am_fewc (vs := [.int y, .int x]) h6 hlo hfew (by decide)) (by omega) (by omega) hd (kk H locs ls cells slots hW hS hl rfl rfl)
  | 8, hx1, hlw =>
    obtain ⟨x, r2, rfl, rfl⟩ := am_i1_inv hx1
    have hrc : cells + w.1.1 ≤ R.cells + w.1.1 := hrc
    have hrs : slots + w.1.2.1 ≤ R.slots + w.1.2.1 := hrs
    exact va_mabs hx0 hb hmls hown (hts _ (am_mem hlw rfl)) (hts _ am_w_abs.1) (hts _ am_w_max.2.1) (hts _ am_w_abs.2) h1f (am_fewc (vs := [.int x]) h6 hlo hfew (by decide)) (by omega) (by omega) hd (kk H locs ls cells slots hW hS hl rfl rfl)
  | 9, hx1, hlw =>
    obtain ⟨x, y, r2, rfl, rfl⟩ := am_ll_inv hx1
    have hrc : cells + w.1.1 ≤ R.cells + w.1.1 := hrc
    have hrs : slots + w.1.2.1 ≤ R.slots + w.1.2.1 := hrs
    exact va_mmax_long hx0 hb hmls hown (hts _ (am_mem hlw rfl)) (hts _ am_w_maxl.1) (hts _ am_w_max.2.1) (hts _ am_w_maxl.2) h1f (am_fewc (vs := [.long y, .long x]) h6 hlo hfew (by decide)) (by omega) (by omega) hd (kk H locs ls cells slots hW hS hl rfl rfl)
  | 10, hx1, hlw =>
    obtain ⟨x, r2, rfl, rfl⟩ := am_l1_inv hx1
    have hrc : cells + w.1.1 ≤ R.cells + w.1.1 := hrc
    have hrs : slots + w.1.2.1 ≤ R.slots + w.1.2.1 := hrs
    exact va_mabs_long hx0 hb hmls hown (hts _ (am_mem hlw rfl)) (hts _ am_w_absl.1) (hts _ am_w_max.2.1) (hts _ am_w_absl.2) h1f (am_fewc (vs := [.long x]) h6 hlo hfew (by decide)) (by omega) (by omega) hd (kk H locs ls cells slots hW hS hl rfl rfl)
  | 11, hx1, hlw =>
    match st, hx1 with
    | .int n :: .int dp :: .ref y2 :: .int sp1 :: .ref y1 :: r2, hx1 =>
     cases o with
     | zero =>
      cases hx1
      obtain ⟨hNP, hp, hq', hs1, hs2, g1, g2, g3, g4, g5⟩ := hq2
      refine va_copyi hx0 hb hmls hown (hts _ (am_mem hlw rfl)) (hts _ am_w_cpy.1) (hts _ am_w_cpy.2.1) (hts _ am_w_cpy.2.2) hK.1 hW.1 (am_D hW.2.1) hS y1 y2 0 0 ((am_ws_get hp).trans (by rw [am_E_2 hs1])) ((am_ws_get hq').trans (by rw [am_E_2 hs2])) rfl rfl rfl g1 g2 g3 g4 g5 (fun _ _ => rfl) h1f (am_fewc (vs := [.int n, .int dp, .ref y2, .int sp1, .ref y1]) h6 hlo hfew am_nfw) hd (fun H1 locs1 hP1 hD1 hS1 => ?_)
      refine kk H1 locs1 ls cells slots ⟨?_, hW.2.1, fun h => absurd h (Nat.not_lt.mpr hNP), Nat.le_trans hB hS1.1, hW.2.2.2.2.1, ?_⟩ hS1 hl rfl rfl
      · rw [← am_set (w := w) (w' := (w.1, am_row w.2.1 y2 (va_cpy (w.2.1 y1) (w.2.1 y2) sp1.toNatClampNeg dp.toNatClampNeg n.toNatClampNeg), w.2.2)) (p := y2) rfl (fun q hq => am_E_eq (am_row_ne hq) rfl rfl), am_E_2 hs2]
        show va_P _ _ (List.set _ _ (_, .inl (_, _, .inl (am_row _ _ _ _)))) _
        rw [am_row_self]
        exact hP1
      · have hp9 : y2 < am_NP := Nat.lt_of_lt_of_le hq' hW.2.1
        show am_row w.2.1 y2 _ 9999 = xs
        rw [am_row_ne (am_9999 hp9)]
        exact hW.2.2.2.2.2
     | succ o =>
      cases hx1
      obtain ⟨hNP, hp, hq', hs1, hs2, g1, g2, g3, g4, g5⟩ := hq2
      refine va_copyl hx0 hb hmls hown (hts _ (am_mem hlw rfl)) (hts _ am_w_cpy.1) (hts _ am_w_cpy.2.1) (hts _ am_w_cpy.2.2) hK.1 hW.1 (am_D hW.2.1) hS y1 y2 2 2 ((am_ws_get hp).trans (by rw [am_E_4 hs1])) ((am_ws_get hq').trans (by rw [am_E_4 hs2])) rfl rfl rfl g1 g2 g3 g4 g5 (fun _ _ => rfl) h1f (am_fewc (vs := [.int n, .int dp, .ref y2, .int sp1, .ref y1]) h6 hlo hfew am_nfw) hd (fun H1 locs1 hP1 hD1 hS1 => ?_)
      refine kk H1 locs1 ls cells slots ⟨?_, hW.2.1, fun h => absurd h (Nat.not_lt.mpr hNP), Nat.le_trans hB hS1.1, hW.2.2.2.2.1, ?_⟩ hS1 hl rfl rfl
      · rw [← am_set (w := w) (w' := (w.1, w.2.1, am_row w.2.2.1 y2 (va_cpy (w.2.2.1 y1) (w.2.2.1 y2) sp1.toNatClampNeg dp.toNatClampNeg n.toNatClampNeg), w.2.2.2)) (p := y2) rfl (fun q hq => am_E_eq rfl (am_row_ne hq) rfl), am_E_4 hs2]
        show va_P _ _ (List.set _ _ (_, .inl (_, _, .inr (.inl (am_row _ _ _ _))))) _
        rw [am_row_self]
        exact hP1
      · exact hW.2.2.2.2.2
  | 0, hx1, _ => cases hx1
  | 1, hx1, _ => cases hx1
  | 2, hx1, _ => cases hx1
  | 3, hx1, _ => cases hx1
  | 4, hx1, _ => cases hx1
  | 5, hx1, _ => cases hx1
  | n + 12, hx1, _ => cases hx1
theorem am_o_invokespecial {i : Nat} {nx a b z : Nat} {v : Value} {o pc : Nat} {lv : AL} {st : List Value} {w : AWd} {q : Option Prop} {t : ASt} {ls : Array Slot} (C : am_Cx p R s m args meth c D aC B0 sp xs L r d) (h6 : 5 ≤ d) (hc : am_chk r.2.1 r.2.2.2.2.1 pc (.invokespecial i, nx, a, b, z, v) = true) (hx : ax (.invokespecial i, nx, a, b, z, v) o (pc, lv, st, w) = some (q, t)) (hq : am_h q) (hW : am_WH D B0 sp aC xs L w H) (hS : va_S (fun q => B0 ≤ q) s.heap H locs) (hl : am_LH (am_ad B0 sp) ls r.2.2.1 lv) (kk : am_Kk p l e R s m args below meth c cells slots Q D B0 sp aC xs L r.2.2.1 w t) : W p l e R s m args below meth c H locs cells slots Q (F0 m pc ls (st.map (am_cv (am_ad B0 sp)))) := by
  obtain ⟨hx0, hb, hml, hr, hlk, hown, hts, hfr, hlo, hin, hK, hX, hbB, hB, hbs⟩ := C
  obtain ⟨hd, hn, hca⟩ := am_chk_inv hc
  have hn : nx = pc + 3 := hn
  subst hn
  have hca := Bool.and_eq_true_iff.mp hca
  obtain ⟨x9, -, hlw⟩ := am_lkM hca.1
  obtain ⟨q1, hx1, hq1⟩ := am_with_inv hx
  obtain ⟨hfew, hq2⟩ := hq1 hq
  have h1f : 1 ≤ R.frames := by omega
  match b, hx1, hlw with
  | 5, hx1, hlw =>
    match st, hx1 with
    | .ref y :: r2, hx1 =>
      cases hx1
      exact W.objInit hx0 hb hown (hts _ (am_mem hlw rfl)) (hts _ am_w_obj.1) (hts _ am_w_obj.2) rfl (hl.1.trans hml.symm) rfl hd h1f (by show 2 * 0 + _ + 12 ≤ _; have := am_fewc (ad := am_ad B0 sp) (vs := [.ref y]) (n := 12) h6 hlo hfew (by decide); omega) (kk H locs ls cells slots hW hS hl rfl rfl)
  | 0, hx1, _ => cases hx1
  | 1, hx1, _ => cases hx1
  | 2, hx1, _ => cases hx1
  | 3, hx1, _ => cases hx1
  | 4, hx1, _ => cases hx1
  | n + 6, hx1, _ => cases hx1
theorem am_o_ldc_w {i : Nat} {nx a b z : Nat} {v : Value} {o pc : Nat} {lv : AL} {st : List Value} {w : AWd} {q : Option Prop} {t : ASt} {ls : Array Slot} (C : am_Cx p R s m args meth c D aC B0 sp xs L r d) (h6 : 5 ≤ d) (hc : am_chk r.2.1 r.2.2.2.2.1 pc (.ldc_w i, nx, a, b, z, v) = true) (hx : ax (.ldc_w i, nx, a, b, z, v) o (pc, lv, st, w) = some (q, t)) (hq : am_h q) (hW : am_WH D B0 sp aC xs L w H) (hS : va_S (fun q => B0 ≤ q) s.heap H locs) (hl : am_LH (am_ad B0 sp) ls r.2.2.1 lv) (kk : am_Kk p l e R s m args below meth c cells slots Q D B0 sp aC xs L r.2.2.1 w t) : W p l e R s m args below meth c H locs cells slots Q (F0 m pc ls (st.map (am_cv (am_ad B0 sp)))) := by
  obtain ⟨hx0, hb, hml, hr, hlk, hown, hts, hfr, hlo, hin, hK, hX, hbB, hB, hbs⟩ := C
  obtain ⟨hd, hn, hca⟩ := am_chk_inv hc
  have hn : nx = pc + 3 := hn
  subst hn
  obtain ⟨x, rfl, hc9⟩ := am_lkK rfl hca
  cases hx
  exact lv_ldcw hx0 hb hown (hts _ hc9) hd (kk H locs ls cells slots hW hS hl rfl rfl)
theorem am_o_ldc2_w {i : Nat} {nx a b z : Nat} {v : Value} {o pc : Nat} {lv : AL} {st : List Value} {w : AWd} {q : Option Prop} {t : ASt} {ls : Array Slot} (C : am_Cx p R s m args meth c D aC B0 sp xs L r d) (h6 : 5 ≤ d) (hc : am_chk r.2.1 r.2.2.2.2.1 pc (.ldc2_w i, nx, a, b, z, v) = true) (hx : ax (.ldc2_w i, nx, a, b, z, v) o (pc, lv, st, w) = some (q, t)) (hq : am_h q) (hW : am_WH D B0 sp aC xs L w H) (hS : va_S (fun q => B0 ≤ q) s.heap H locs) (hl : am_LH (am_ad B0 sp) ls r.2.2.1 lv) (kk : am_Kk p l e R s m args below meth c cells slots Q D B0 sp aC xs L r.2.2.1 w t) : W p l e R s m args below meth c H locs cells slots Q (F0 m pc ls (st.map (am_cv (am_ad B0 sp)))) := by
  obtain ⟨hx0, hb, hml, hr, hlk, hown, hts, hfr, hlo, hin, hK, hX, hbB, hB, hbs⟩ := C
  obtain ⟨hd, hn, hca⟩ := am_chk_inv hc
  have hn : nx = pc + 3 := hn
  subst hn
  obtain ⟨x, rfl, hc9⟩ := am_lkL rfl hca
  cases hx
  exact lv_ldc2 hx0 hb hown (hts _ hc9) hd (kk H locs ls cells slots hW hS hl rfl rfl)
theorem am_o_ldc {i : Nat} {nx a b z : Nat} {v : Value} {o pc : Nat} {lv : AL} {st : List Value} {w : AWd} {q : Option Prop} {t : ASt} {ls : Array Slot} (C : am_Cx p R s m args meth c D aC B0 sp xs L r d) (h6 : 5 ≤ d) (hc : am_chk r.2.1 r.2.2.2.2.1 pc (.ldc i, nx, a, b, z, v) = true) (hx : ax (.ldc i, nx, a, b, z, v) o (pc, lv, st, w) = some (q, t)) (hq : am_h q) (hW : am_WH D B0 sp aC xs L w H) (hS : va_S (fun q => B0 ≤ q) s.heap H locs) (hl : am_LH (am_ad B0 sp) ls r.2.2.1 lv) (kk : am_Kk p l e R s m args below meth c cells slots Q D B0 sp aC xs L r.2.2.1 w t) : W p l e R s m args below meth c H locs cells slots Q (F0 m pc ls (st.map (am_cv (am_ad B0 sp)))) := by
  obtain ⟨hx0, hb, hml, hr, hlk, hown, hts, hfr, hlo, hin, hK, hX, hbB, hB, hbs⟩ := C
  obtain ⟨hd, hn, hca⟩ := am_chk_inv hc
  have hn : nx = pc + 2 := hn
  subst hn
  rcases Bool.or_eq_true_iff.mp hca with hca | hca
  · obtain ⟨x, rfl, hc9⟩ := am_lkK rfl hca
    cases hx
    exact lv_ldc hx0 hb hown (hts _ hc9) hd (kk H locs ls cells slots hW hS hl rfl rfl)
  · obtain ⟨tx, x, hq9, rfl⟩ := am_lkS hca
    cases hx
    have hlt : ¬ 9990 + (z - 1000) < am_NP := by unfold am_NP; omega
    have hR : vk_R (am_RO r.2.2.2.2.1) i tx (sp (9990 + (z - 1000))) s := hK.2.2.1 (z - 1000) (r.2.2.2.2.1, i, tx, x) hq9
    have k0 : W p l e R s m args below meth c H locs cells slots Q (F0 m (pc + 2) ls (.ref (am_ad B0 sp (9990 + (z - 1000))) :: st.map (am_cv (am_ad B0 sp)))) := (kk H locs ls cells slots hW hS hl rfl rfl)
    rw [show am_ad B0 sp (9990 + (z - 1000)) = sp (9990 + (z - 1000)) from if_neg hlt] at k0
    exact va_ldcS hx0 hb hown hR hd k0
end AMO
