/-! new cells and the library's calls -/
theorem am_ws_succ {ad : Nat → Nat} {aC : Nat → ClassId} {w : AWd} {n : Nat} (h9 : ∀ p, p < w.1.1 → am_E ad aC (am_mk w n) p = am_E ad aC w p) : am_ws ad aC (am_mk w n) = am_ws ad aC w ++ [(ad w.1.1, am_E ad aC (am_mk w n) w.1.1)] := by
  unfold am_ws
  show (List.range (w.1.1 + 1)).map _ = _
  rw [List.range_succ, List.map_append, List.map_singleton]
  congr 1
  apply List.map_congr_left
  intro p hp
  rw [h9 p (List.mem_range.mp hp)]
theorem am_WH.new {D : va_G} {B0 : Nat} {sp : Nat → Nat} {aC : Nat → ClassId} {xs : Nat → Int32} {L n : Nat} {w : AWd} {H H1 : Heap} (h : am_WH D B0 sp aC xs L w H) (hlt : w.1.1 < am_NP) (hat : va_at D vwCl (am_ad B0 sp w.1.1, am_E (am_ad B0 sp) aC (am_mk w n) w.1.1) H1) (z : H1.size = H.size + 1) (oq : ∀ q : Nat, q < H.size → H1[q]? = H[q]?) : am_WH D B0 sp aC xs L (am_mk w n) H1 := by
  obtain ⟨h1, h2, h3, h4, h5, h6⟩ := h
  have hs := h3 hlt
  refine ⟨?_, hlt, fun q => ?_, by omega, h5, ?_⟩
  · rw [am_ws_succ (fun p hp => am_E_eq (am_row_ne (by omega)) (am_row_ne (by omega)) (am_row_ne (by omega)))]
    refine (h1.kept (fun k q hk => ?_)).app (fun k q hk => ?_)
    · obtain ⟨g1, rfl⟩ := am_ws_inv hk
      exact oq _ (by show am_ad B0 sp k < _; rw [am_adp (by omega)]; omega)
    · have hk0 : k < 1 := (List.getElem?_eq_some_iff.mp hk).1
      rw [show k = 0 by omega] at hk
      cases hk
      exact hat
  · show H1.size = B0 + (w.1.1 + 1)
    omega
  · show am_row w.2.1 w.1.1 (fun _ => 0) 9999 = xs
    rw [am_row_ne (by unfold am_NP at hlt; omega)]
    exact h6
theorem am_S_new {A : Nat → Prop} {H0 H H1 : Heap} {locs : List Loc} (h : va_S A H0 H locs) (z : H.size ≤ H1.size) (oq : ∀ q : Nat, q < H.size → H1[q]? = H[q]?) : va_S A H0 H1 locs :=
  ⟨Nat.le_trans h.1 z, fun q h1 h2 => (oq q (Nat.lt_of_lt_of_le h1 h.1)).trans (h.2.1 q h1 h2), h.2.2⟩
theorem am_w_aI : Jvm.Cond.arrayClass .int ∈ am_TT := am_mem (z := 122) (by decide +kernel) rfl
theorem am_w_aZ : Jvm.Cond.arrayClass .boolean ∈ am_TT := am_mem (z := 207) (by decide +kernel) rfl
theorem am_w_aJ : Jvm.Cond.arrayClass .long ∈ am_TT := am_mem (z := 206) (by decide +kernel) rfl
theorem am_w_max : Jvm.Cond.static Lib.Math.max.name ∈ am_TT ∧ Jvm.Cond.initialized "java/lang/Math" ∈ am_TT ∧ Jvm.Cond.code Lib.Math.max.name Lib.Math.max.code 2 (some .int) ∈ am_TT := ⟨am_mem (z := 741) (by decide +kernel) rfl, am_mem (z := 39) (by decide +kernel) rfl, am_mem (z := 742) (by decide +kernel) rfl⟩
theorem am_w_min : Jvm.Cond.static Lib.Math.min.name ∈ am_TT ∧ Jvm.Cond.code Lib.Math.min.name Lib.Math.min.code 2 (some .int) ∈ am_TT := ⟨am_mem (z := 744) (by decide +kernel) rfl, am_mem (z := 745) (by decide +kernel) rfl⟩
theorem am_w_abs : Jvm.Cond.static Lib.Math.abs.name ∈ am_TT ∧ Jvm.Cond.code Lib.Math.abs.name Lib.Math.abs.code 1 (some .int) ∈ am_TT := ⟨am_mem (z := 720) (by decide +kernel) rfl, am_mem (z := 721) (by decide +kernel) rfl⟩
theorem am_w_maxl : Jvm.Cond.static Lib.MathLoose.max_long.x ∈ am_TT ∧ Jvm.Cond.code Lib.MathLoose.max_long.x Lib.MathLoose.max_long.code 4 (some .long) ∈ am_TT := ⟨am_mem (z := 751) (by decide +kernel) rfl, am_mem (z := 752) (by decide +kernel) rfl⟩
theorem am_w_absl : Jvm.Cond.static Lib.MathLoose.abs_long.x ∈ am_TT ∧ Jvm.Cond.code Lib.MathLoose.abs_long.x Lib.MathLoose.abs_long.code 2 (some .long) ∈ am_TT := ⟨am_mem (z := 748) (by decide +kernel) rfl, am_mem (z := 749) (by decide +kernel) rfl⟩
theorem am_w_cpy : Jvm.Cond.native arraycopyName ∈ am_TT ∧ Jvm.Cond.static arraycopyName ∈ am_TT ∧ Jvm.Cond.initialized "java/lang/System" ∈ am_TT := ⟨am_mem (z := 316) (by decide +kernel) rfl, am_mem (z := 315) (by decide +kernel) rfl, am_mem (z := 33) (by decide +kernel) rfl⟩
theorem am_w_obj : Jvm.Cond.instanceMethod objectInit ∈ am_TT ∧ Jvm.Cond.code objectInit ⟨#[0xb1]⟩ 1 none ∈ am_TT := ⟨am_mem (z := 46) (by decide +kernel) rfl, am_mem (z := 47) (by decide +kernel) rfl⟩
theorem am_w_n0 : Jvm.Cond.instantiable (am_RO 0) (am_N 0) ∈ am_TT ∧ Jvm.Cond.initialized (am_RO 0) ∈ am_TT := ⟨am_mem (z := 141) (by decide +kernel) rfl, am_mem (z := 29) (by decide +kernel) rfl⟩
theorem am_w_n1 : Jvm.Cond.instantiable (am_RO 1) (am_N 1) ∈ am_TT ∧ Jvm.Cond.initialized (am_RO 1) ∈ am_TT := ⟨am_mem (z := 194) (by decide +kernel) rfl, am_mem (z := 30) (by decide +kernel) rfl⟩
theorem am_w_n2 : Jvm.Cond.instantiable (am_RO 2) (am_N 2) ∈ am_TT ∧ Jvm.Cond.initialized (am_RO 2) ∈ am_TT := ⟨am_mem (z := 124) (by decide +kernel) rfl, am_mem (z := 28) (by decide +kernel) rfl⟩
theorem am_w_n3 : Jvm.Cond.instantiable (am_RO 3) (am_N 3) ∈ am_TT ∧ Jvm.Cond.initialized (am_RO 3) ∈ am_TT := ⟨am_mem (z := 254) (by decide +kernel) rfl, am_mem (z := 32) (by decide +kernel) rfl⟩
theorem am_w_n4 : Jvm.Cond.instantiable (am_RO 4) (am_N 4) ∈ am_TT ∧ Jvm.Cond.initialized (am_RO 4) ∈ am_TT := ⟨am_mem (z := 49) (by decide +kernel) rfl, am_mem (z := 27) (by decide +kernel) rfl⟩
theorem am_w_n5 : Jvm.Cond.instantiable (am_RO 5) (am_N 5) ∈ am_TT ∧ Jvm.Cond.initialized (am_RO 5) ∈ am_TT := ⟨am_mem (z := 209) (by decide +kernel) rfl, am_mem (z := 31) (by decide +kernel) rfl⟩
theorem am_w_n6 : Jvm.Cond.instantiable (am_RO 6) (am_N 6) ∈ am_TT ∧ Jvm.Cond.initialized (am_RO 6) ∈ am_TT := ⟨am_mem (z := 41) (by decide +kernel) rfl, am_mem (z := 26) (by decide +kernel) rfl⟩
theorem am_w_n : ∀ a, a < 7 → Jvm.Cond.instantiable (am_RO a) (am_N a) ∈ am_TT ∧ Jvm.Cond.initialized (am_RO a) ∈ am_TT := by
  intro a h
  match a, h with
  | 0, _ => exact am_w_n0
  | 1, _ => exact am_w_n1
  | 2, _ => exact am_w_n2
  | 3, _ => exact am_w_n3
  | 4, _ => exact am_w_n4
  | 5, _ => exact am_w_n5
  | 6, _ => exact am_w_n6
  | n + 7, h => omega
theorem am_lkM {o i a b z : Nat} (h : am_k5 o i a b lkM[z]? = true) : ∃ x, (o, i, a, b, x) ∈ lkM ∧ lw_tbl[x]? = some (am_lw (o, i, a, b, x)) := by
  obtain ⟨x, hx⟩ := am_k5_inv h
  exact ⟨x, List.mem_of_getElem? hx, lkM_ok _ (List.mem_of_getElem? hx)⟩
theorem am_lkN {o i a z : Nat} (h : am_k4 o i a lkN[z]? = true) : Jvm.Cond.classLink (am_RO o) i (am_cn a) ∈ am_TT := by
  obtain ⟨x, hx⟩ := am_k4_inv h
  exact am_mem (lkN_ok _ (List.mem_of_getElem? hx)) rfl
theorem am_with_inv {q0 : Prop} {a : AO} {q : Option Prop} {t : ASt} (h : am_with q0 a = some (q, t)) : ∃ q1, a = some (q1, t) ∧ (am_h q → q0 ∧ am_h q1) := by
  unfold am_with at h
  split at h
  · simp only [Option.some.injEq, Prod.mk.injEq] at h
    refine ⟨none, by rw [h.2], fun hq => ?_⟩
    rw [← h.1] at hq
    exact ⟨hq, trivial⟩
  · rename_i q9 s9
    simp only [Option.some.injEq, Prod.mk.injEq] at h
    refine ⟨some q9, by rw [h.2], fun hq => ?_⟩
    rw [← h.1] at hq
    exact hq
  · cases h
theorem am_dfl : ∀ a, a < 7 → ∀ k, k < am_N a → defaultValue (am_ty a k) = cond (am_isI a k) (.int 0) .null := by decide +kernel
section AMO
variable {p : Program} {l : Launch} {e : Env} {R : Room} {s : State} {m : MethodId} {args : Array Value} {below : List Frame} {meth : Method} {c : Code} {H : Heap} {locs : List Loc} {cells slots : Nat} {Q : State → Prop}
variable {D : va_G} {B0 : Nat} {sp : Nat → Nat} {aC : Nat → ClassId} {xs : Nat → Int32} {L : Nat} {r : AR} {d : Nat}
theorem am_o_newarray {ty : ArrayType} {nx a b z : Nat} {v : Value} {o pc : Nat} {lv : AL} {st : List Value} {w : AWd} {q : Option Prop} {t : ASt} {ls : Array Slot} (hrc : cells + t.2.2.2.1.1 ≤ R.cells + w.1.1) (hrs : slots + t.2.2.2.1.2.1 ≤ R.slots + w.1.2.1) (C : am_Cx p R s m args meth c D aC B0 sp xs L r d) (h6 : 5 ≤ d) (hc : am_chk r.2.1 r.2.2.2.2.1 pc (.newarray ty, nx, a, b, z, v) = true) (hx : ax (.newarray ty, nx, a, b, z, v) o (pc, lv, st, w) = some (q, t)) (hq : am_h q) (hW : am_WH D B0 sp aC xs L w H) (hS : va_S (fun q => B0 ≤ q) s.heap H locs) (hl : am_LH (am_ad B0 sp) ls r.2.2.1 lv) (kk : am_Kk p l e R s m args below meth c cells slots Q D B0 sp aC xs L r.2.2.1 w t) : W p l e R s m args below meth c H locs cells slots Q (F0 m pc ls (st.map (am_cv (am_ad B0 sp)))) := by
  obtain ⟨hx0, hb, hml, hr, hlk, hown, hts, hfr, hlo, hin, hK, hX, hbB, hB, hbs⟩ := C
  obtain ⟨hd, hn, hca⟩ := am_chk_inv hc
  have hn : nx = pc + 2 := hn
  subst hn
  match st, hx with
  | .int n :: r2, hx =>
    cases hx
    obtain ⟨hlt, hn0, hs, hn1⟩ := hq
    have hsz := hW.2.2.1 hlt
    have hca := of_decide_eq_true hca
    have hrc : cells + (w.1.1 + 1) ≤ R.cells + w.1.1 := hrc
    have hrs : slots + (w.1.2.1 + n.toNatClampNeg) ≤ R.slots + w.1.2.1 := hrs
    rcases hca with ⟨rfl, rfl⟩ | ⟨rfl, rfl⟩ | ⟨rfl, rfl⟩
    · refine va_newaK hx0 hb (atype := .int) (hts _ am_w_aI) rfl hd rfl hn0 rfl (Nat.le_trans (Nat.mul_le_mul_right _ hn1) (by decide)) (by omega) (by omega) hsz fun H1 cA e1 z1 o1 hAr hNm => ?_
      have hcA : cA = aC 2 := Option.some.inj (hNm.symm.trans (hK.1.2 0 _ rfl).2)
      subst hcA
      have o2 : ∀ q : Nat, q < H.size → H1[q]? = H[q]? := fun q hq => o1 q (by omega)
      have k0 := kk H1 locs ls (cells + 1) (slots + n.toNatClampNeg) (hW.new hlt ?_ (by omega) o2) (am_S_new hS (by omega) o2) hl (by show cells + 1 + w.1.1 = cells + (w.1.1 + 1); omega) (by show slots + n.toNatClampNeg + w.1.2.1 = slots + (w.1.2.1 + n.toNatClampNeg); omega)
      · have e9 : Value.ref (B0 + w.1.1) = am_cv (am_ad B0 sp) (.ref w.1.1) := by show _ = Value.ref (am_ad B0 sp w.1.1); rw [am_adp hlt]
        rw [e9]
        exact k0
      · rw [am_E_2 (by rw [hs]), hs, am_adp hlt]
        show H1[B0 + w.1.1]? = some (vp_cell (aC 2) (n.toNatClampNeg, .inl (am_row w.2.1 w.1.1 (fun _ => 0) w.1.1)))
        rw [am_row_self, e1, vp_cell_i]
        rfl
    · refine va_newaK hx0 hb (atype := .boolean) (hts _ am_w_aZ) rfl hd rfl hn0 rfl (Nat.le_trans (Nat.mul_le_mul_right _ hn1) (by decide)) (by omega) (by omega) hsz fun H1 cA e1 z1 o1 hAr hNm => ?_
      have hcA : cA = aC 3 := Option.some.inj (hNm.symm.trans (hK.1.2 1 _ rfl).2)
      subst hcA
      have o2 : ∀ q : Nat, q < H.size → H1[q]? = H[q]? := fun q hq => o1 q (by omega)
      have k0 := kk H1 locs ls (cells + 1) (slots + n.toNatClampNeg) (hW.new hlt ?_ (by omega) o2) (am_S_new hS (by omega) o2) hl (by show cells + 1 + w.1.1 = cells + (w.1.1 + 1); omega) (by show slots + n.toNatClampNeg + w.1.2.1 = slots + (w.1.2.1 + n.toNatClampNeg); omega)
      · have e9 : Value.ref (B0 + w.1.1) = am_cv (am_ad B0 sp) (.ref w.1.1) := by show _ = Value.ref (am_ad B0 sp w.1.1); rw [am_adp hlt]
        rw [e9]
        exact k0
      · rw [am_E_3 (by rw [hs]), hs, am_adp hlt]
        show H1[B0 + w.1.1]? = some (vp_cell (aC 3) (n.toNatClampNeg, .inl (am_row w.2.1 w.1.1 (fun _ => 0) w.1.1)))
        rw [am_row_self, e1, vp_cell_i]
        rfl
    · refine va_newaK hx0 hb (atype := .long) (hts _ am_w_aJ) rfl hd rfl hn0 rfl (Nat.le_trans (Nat.mul_le_mul_right _ hn1) (by decide)) (by omega) (by omega) hsz fun H1 cA e1 z1 o1 hAr hNm => ?_
      have hcA : cA = aC 4 := Option.some.inj (hNm.symm.trans (hK.1.2 2 _ rfl).2)
      subst hcA
      have o2 : ∀ q : Nat, q < H.size → H1[q]? = H[q]? := fun q hq => o1 q (by omega)
      have k0 := kk H1 locs ls (cells + 1) (slots + n.toNatClampNeg) (hW.new hlt ?_ (by omega) o2) (am_S_new hS (by omega) o2) hl (by show cells + 1 + w.1.1 = cells + (w.1.1 + 1); omega) (by show slots + n.toNatClampNeg + w.1.2.1 = slots + (w.1.2.1 + n.toNatClampNeg); omega)
      · have e9 : Value.ref (B0 + w.1.1) = am_cv (am_ad B0 sp) (.ref w.1.1) := by show _ = Value.ref (am_ad B0 sp w.1.1); rw [am_adp hlt]
        rw [e9]
        exact k0
      · rw [am_E_4 (by rw [hs]), hs, am_adp hlt]
        show H1[B0 + w.1.1]? = some (vp_cell (aC 4) (n.toNatClampNeg, .inr (.inl (am_row w.2.2.1 w.1.1 (fun _ => 0) w.1.1))))
        rw [am_row_self, e1, vp_cell_l]
        rfl
theorem am_o_new {i : Nat} {nx a b z : Nat} {v : Value} {o pc : Nat} {lv : AL} {st : List Value} {w : AWd} {q : Option Prop} {t : ASt} {ls : Array Slot} (hrc : cells + t.2.2.2.1.1 ≤ R.cells + w.1.1) (hrs : slots + t.2.2.2.1.2.1 ≤ R.slots + w.1.2.1) (C : am_Cx p R s m args meth c D aC B0 sp xs L r d) (h6 : 5 ≤ d) (hc : am_chk r.2.1 r.2.2.2.2.1 pc (.new i, nx, a, b, z, v) = true) (hx : ax (.new i, nx, a, b, z, v) o (pc, lv, st, w) = some (q, t)) (hq : am_h q) (hW : am_WH D B0 sp aC xs L w H) (hS : va_S (fun q => B0 ≤ q) s.heap H locs) (hl : am_LH (am_ad B0 sp) ls r.2.2.1 lv) (kk : am_Kk p l e R s m args below meth c cells slots Q D B0 sp aC xs L r.2.2.1 w t) : W p l e R s m args below meth c H locs cells slots Q (F0 m pc ls (st.map (am_cv (am_ad B0 sp)))) := by
  obtain ⟨hx0, hb, hml, hr, hlk, hown, hts, hfr, hlo, hin, hK, hX, hbB, hB, hbs⟩ := C
  obtain ⟨hd, hn, hca⟩ := am_chk_inv hc
  have hn : nx = pc + 3 := hn
  subst hn
  cases hx
  obtain ⟨hlt, hs⟩ := hq
  have hsz := hW.2.2.1 hlt
  have hca := Bool.and_eq_true_iff.mp hca
  have ha : a < 7 := Nat.le_of_ble_eq_true hca.2
  have hcl := am_lkN hca.1
  have hcn : am_cn a = am_RO a := by unfold am_cn; split <;> first | omega | rfl
  rw [hcn] at hcl
  have hKn := hK.1.1 a _ (am_vw a ha)
  have hrc : cells + (w.1.1 + 1) ≤ R.cells + w.1.1 := hrc
  have hrs : slots + (w.1.2.1 + am_N a) ≤ R.slots + w.1.2.1 := hrs
  refine W.newcK hx0 hb hown (hts _ hcl) (hts _ (am_w_n a ha).1) (hts _ (am_w_n a ha).2) rfl hd (by omega) (by omega) hKn.2.1 hsz fun H1 kC hkC e1 z1 o1 => ?_
  have o2 : ∀ q : Nat, q < H.size → H1[q]? = H[q]? := fun q hq => o1 q (by omega)
  have k0 := kk H1 locs ls (cells + 1) (slots + am_N a) (hW.new hlt ?_ (by omega) o2) (am_S_new hS (by omega) o2) hl (by show cells + 1 + w.1.1 = cells + (w.1.1 + 1); omega) (by show slots + am_N a + w.1.2.1 = slots + (w.1.2.1 + am_N a); omega)
  · have e9 : Value.ref (B0 + w.1.1) = am_cv (am_ad B0 sp) (.ref w.1.1) := by show _ = Value.ref (am_ad B0 sp w.1.1); rw [am_adp hlt]
    rw [e9]
    exact k0
  · rw [am_E_obj hs, am_adp hlt]
    refine ⟨_, am_vw a ha, (u_born (am_ty a) hts (am_lay a ha) hKn hkC e1 (am_tyok a ha)).to (fun j hj => ?_)⟩
    have hj : j < am_N a := hj
    rw [am_dfl a ha j hj]
    simp only [vp_V, am_mk, am_row_self]
    simp [hj, va_rf]
theorem am_o_anewarray {i : Nat} {nx a b z : Nat} {v : Value} {o pc : Nat} {lv : AL} {st : List Value} {w : AWd} {q : Option Prop} {t : ASt} {ls : Array Slot} (hrc : cells + t.2.2.2.1.1 ≤ R.cells + w.1.1) (hrs : slots + t.2.2.2.1.2.1 ≤ R.slots + w.1.2.1) (C : am_Cx p R s m args meth c D aC B0 sp xs L r d) (h6 : 5 ≤ d) (hc : am_chk r.2.1 r.2.2.2.2.1 pc (.anewarray i, nx, a, b, z, v) = true) (hx : ax (.anewarray i, nx, a, b, z, v) o (pc, lv, st, w) = some (q, t)) (hq : am_h q) (hW : am_WH D B0 sp aC xs L w H) (hS : va_S (fun q => B0 ≤ q) s.heap H locs) (hl : am_LH (am_ad B0 sp) ls r.2.2.1 lv) (kk : am_Kk p l e R s m args below meth c cells slots Q D B0 sp aC xs L r.2.2.1 w t) : W p l e R s m args below meth c H locs cells slots Q (F0 m pc ls (st.map (am_cv (am_ad B0 sp)))) := by
  obtain ⟨hx0, hb, hml, hr, hlk, hown, hts, hfr, hlo, hin, hK, hX, hbB, hB, hbs⟩ := C
  obtain ⟨hd, hn, hca⟩ := am_chk_inv hc
  have hn : nx = pc + 3 := hn
  subst hn
  match st, hx with
  | .int n :: r2, hx =>
    cases hx
    obtain ⟨hlt, hn0, hs, hn1⟩ := hq
    have hsz := hW.2.2.1 hlt
    have hca := Bool.and_eq_true_iff.mp hca
    have hcl := am_lkN hca.1
    have hrc : cells + (w.1.1 + 1) ≤ R.cells + w.1.1 := hrc
    have hrs : slots + (w.1.2.1 + n.toNatClampNeg) ≤ R.slots + w.1.2.1 := hrs
    have ha : ∃ t0 : Nat, (am_tys aC)[t0]? = some (aC (am_ak a), .object (am_RO a)) ∧ am_cn a = am_RO a ∧ va_AO (am_RO a) s ∧ (am_ak a = 5 ∨ am_ak a = 6 ∨ am_ak a = 7) := by
      rcases Bool.or_eq_true_iff.mp hca.2 with h | h <;> have h := Nat.eq_of_beq_eq_true h <;> subst h
      · exact ⟨5, rfl, rfl, hK.2.2.2.2.1, Or.inr (Or.inr rfl)⟩
      · exact ⟨4, rfl, rfl, hK.2.2.2.1, Or.inr (Or.inl rfl)⟩
    obtain ⟨t0, ht0, hcn, hov, hk3⟩ := ha
    rw [hcn] at hcl
    refine W.anew hx0 hb hown (hts _ hcl) (va_AO.use hov) rfl hd rfl hn0 (Nat.le_trans (Nat.mul_le_mul_right _ hn1) (by decide)) (by omega) (by omega) fun cA kA comp f1 f2 f3 f4 => ?_
    generalize hH1 : H.push ({ cls := cA, slots := Array.replicate n.toNatClampNeg .null, vm := .none } : Cell) = H1
    have z1 : H1.size = H.size + 1 := by rw [← hH1, Array.size_push]
    have o2 : ∀ q : Nat, q < H.size → H1[q]? = H[q]? := fun q hq => by rw [← hH1, Array.getElem?_push, if_neg (Nat.ne_of_lt hq)]
    have hcA : cA = aC (am_ak a) := by
      obtain ⟨kA', comp', g1, g2, g3, g4⟩ := (hK.1.2 t0 _ ht0).2
      exact Option.some.inj (f1.symm.trans g4)
    subst hcA
    have k0 := kk H1 locs ls (cells + 1) (slots + n.toNatClampNeg) (hW.new hlt ?_ (by omega) o2) (am_S_new hS (by omega) o2) hl (by show cells + 1 + w.1.1 = cells + (w.1.1 + 1); omega) (by show slots + n.toNatClampNeg + w.1.2.1 = slots + (w.1.2.1 + n.toNatClampNeg); omega)
    · rw [hsz]
      have e9 : am_cv (am_ad B0 sp) (.ref w.1.1) = .ref (B0 + w.1.1) := by show Value.ref (am_ad B0 sp w.1.1) = _; rw [am_adp hlt]
      rw [← e9]
      exact k0
    · rw [am_E_q (by rw [hs]; exact hk3), hs, am_adp hlt, ← hsz]
      show H1[H.size]? = some (vp_cell (aC (am_ak a)) (n.toNatClampNeg, .inr (.inr (.inr (.inr (fun i => (am_row w.2.2.2 w.1.1 (fun _ => none) w.1.1 i).map (am_ad B0 sp)))))))
      rw [am_row_self, vp_cell_q, ← hH1, Array.getElem?_push, if_pos rfl, arrV_new]
      rfl
end AMO
