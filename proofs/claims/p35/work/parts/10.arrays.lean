/-! arrays, new cells, the library's calls -/
section AMO
variable {p : Program} {l : Launch} {e : Env} {R : Room} {s : State} {m : MethodId} {args : Array Value} {below : List Frame} {meth : Method} {c : Code} {H : Heap} {locs : List Loc} {cells slots : Nat} {Q : State → Prop}
variable {D : va_G} {B0 : Nat} {sp : Nat → Nat} {aC : Nat → ClassId} {xs : Nat → Int32} {L : Nat} {r : AR} {d : Nat}
theorem am_o_iaload {nx a b z : Nat} {v : Value} {o pc : Nat} {lv : AL} {st : List Value} {w : AWd} {q : Option Prop} {t : ASt} {ls : Array Slot} (C : am_Cx p R s m args meth c D aC B0 sp xs L r d) (h6 : 5 ≤ d) (hc : am_chk r.2.1 r.2.2.2.2.1 pc (.iaload, nx, a, b, z, v) = true) (hx : ax (.iaload, nx, a, b, z, v) o (pc, lv, st, w) = some (q, t)) (hq : am_h q) (hW : am_WH D B0 sp aC xs L w H) (hS : va_S (fun q => B0 ≤ q) s.heap H locs) (hl : am_LH (am_ad B0 sp) ls r.2.2.1 lv) (kk : am_Kk p l e R s m args below meth c cells slots Q D B0 sp aC xs L r.2.2.1 w t) : W p l e R s m args below meth c H locs cells slots Q (F0 m pc ls (st.map (am_cv (am_ad B0 sp)))) := by
  obtain ⟨hx0, hb, hml, hr, hlk, hown, hts, hfr, hlo, hin, hK, hX, hbB, hB, hbs⟩ := C
  obtain ⟨hd, hn, hca⟩ := am_chk_inv hc
  have hn : nx = pc + 1 := hn
  subst hn
  match st, hx with
  | .int i :: .ref y :: r2, hx =>
    cases o with
    | zero =>
      cases hx
      obtain ⟨hp, hs, hi⟩ := hq
      exact va_iald hx0 hb hK.1 hW.1 y 0 ((am_ws_get hp).trans (by rw [am_E_2 hs])) rfl hi hd (kk H locs ls cells slots hW hS hl rfl rfl)
    | succ o =>
      cases hx
      obtain ⟨rfl, hi⟩ := hq
      rw [hW.2.2.2.2.1] at hi
      have e9 : am_ad B0 sp 9999 = sp 9999 := if_neg (by decide)
      have k0 := (kk H locs ls cells slots hW hS hl rfl rfl)
      refine va_sld hx0 hb hX hbs (fun h9 => absurd h9 (by omega)) hS hi hd ?_
      rw [← hW.2.2.2.2.2]
      exact k0
theorem am_o_baload {nx a b z : Nat} {v : Value} {o pc : Nat} {lv : AL} {st : List Value} {w : AWd} {q : Option Prop} {t : ASt} {ls : Array Slot} (C : am_Cx p R s m args meth c D aC B0 sp xs L r d) (h6 : 5 ≤ d) (hc : am_chk r.2.1 r.2.2.2.2.1 pc (.baload, nx, a, b, z, v) = true) (hx : ax (.baload, nx, a, b, z, v) o (pc, lv, st, w) = some (q, t)) (hq : am_h q) (hW : am_WH D B0 sp aC xs L w H) (hS : va_S (fun q => B0 ≤ q) s.heap H locs) (hl : am_LH (am_ad B0 sp) ls r.2.2.1 lv) (kk : am_Kk p l e R s m args below meth c cells slots Q D B0 sp aC xs L r.2.2.1 w t) : W p l e R s m args below meth c H locs cells slots Q (F0 m pc ls (st.map (am_cv (am_ad B0 sp)))) := by
  obtain ⟨hx0, hb, hml, hr, hlk, hown, hts, hfr, hlo, hin, hK, hX, hbB, hB, hbs⟩ := C
  obtain ⟨hd, hn, hca⟩ := am_chk_inv hc
  have hn : nx = pc + 1 := hn
  subst hn
  match st, hx with
  | .int i :: .ref y :: r2, hx =>
    cases hx
    obtain ⟨hp, hs, hi⟩ := hq
    exact va_zald hx0 hb hK.1 hW.1 y 1 ((am_ws_get hp).trans (by rw [am_E_3 hs])) rfl hi hd (kk H locs ls cells slots hW hS hl rfl rfl)
theorem am_o_laload {nx a b z : Nat} {v : Value} {o pc : Nat} {lv : AL} {st : List Value} {w : AWd} {q : Option Prop} {t : ASt} {ls : Array Slot} (C : am_Cx p R s m args meth c D aC B0 sp xs L r d) (h6 : 5 ≤ d) (hc : am_chk r.2.1 r.2.2.2.2.1 pc (.laload, nx, a, b, z, v) = true) (hx : ax (.laload, nx, a, b, z, v) o (pc, lv, st, w) = some (q, t)) (hq : am_h q) (hW : am_WH D B0 sp aC xs L w H) (hS : va_S (fun q => B0 ≤ q) s.heap H locs) (hl : am_LH (am_ad B0 sp) ls r.2.2.1 lv) (kk : am_Kk p l e R s m args below meth c cells slots Q D B0 sp aC xs L r.2.2.1 w t) : W p l e R s m args below meth c H locs cells slots Q (F0 m pc ls (st.map (am_cv (am_ad B0 sp)))) := by
  obtain ⟨hx0, hb, hml, hr, hlk, hown, hts, hfr, hlo, hin, hK, hX, hbB, hB, hbs⟩ := C
  obtain ⟨hd, hn, hca⟩ := am_chk_inv hc
  have hn : nx = pc + 1 := hn
  subst hn
  match st, hx with
  | .int i :: .ref y :: r2, hx =>
    cases hx
    obtain ⟨hp, hs, hi⟩ := hq
    exact va_lald hx0 hb hK.1 hW.1 y 2 ((am_ws_get hp).trans (by rw [am_E_4 hs])) rfl hi hd (kk H locs ls cells slots hW hS hl rfl rfl)
theorem am_o_aaload {nx a b z : Nat} {v : Value} {o pc : Nat} {lv : AL} {st : List Value} {w : AWd} {q : Option Prop} {t : ASt} {ls : Array Slot} (C : am_Cx p R s m args meth c D aC B0 sp xs L r d) (h6 : 5 ≤ d) (hc : am_chk r.2.1 r.2.2.2.2.1 pc (.aaload, nx, a, b, z, v) = true) (hx : ax (.aaload, nx, a, b, z, v) o (pc, lv, st, w) = some (q, t)) (hq : am_h q) (hW : am_WH D B0 sp aC xs L w H) (hS : va_S (fun q => B0 ≤ q) s.heap H locs) (hl : am_LH (am_ad B0 sp) ls r.2.2.1 lv) (kk : am_Kk p l e R s m args below meth c cells slots Q D B0 sp aC xs L r.2.2.1 w t) : W p l e R s m args below meth c H locs cells slots Q (F0 m pc ls (st.map (am_cv (am_ad B0 sp)))) := by
  obtain ⟨hx0, hb, hml, hr, hlk, hown, hts, hfr, hlo, hin, hK, hX, hbB, hB, hbs⟩ := C
  obtain ⟨hd, hn, hca⟩ := am_chk_inv hc
  have hn : nx = pc + 1 := hn
  subst hn
  match st, hx with
  | .int i :: .ref y :: r2, hx =>
    cases hx
    obtain ⟨hp, hs, hi, hR⟩ := hq
    have hE := hW.1 y _ (am_ws_get hp)
    rw [am_E_q hs] at hE
    have hlt : i.toNatClampNeg < (sh y).2 := Nat.not_le.mp fun q => hi (Or.inr q)
    have ht : ∃ ty : FieldType, ty.isReference = true ∧ ∃ t0 : Nat, (am_tys aC)[t0]? = some (aC (sh y).1, ty) := by
      rcases hs with hs | hs | hs <;> rw [hs]
      · exact ⟨_, rfl, 3, rfl⟩
      · exact ⟨_, rfl, 4, rfl⟩
      · exact ⟨_, rfl, 5, rfl⟩
    obtain ⟨ty, hty, t0, ht0⟩ := ht
    have k0 := (kk H locs ls cells slots hW hS hl rfl rfl)
    refine W.aald (v := va_rf ((w.2.2.2 y i.toNatClampNeg).map (am_ad B0 sp))) (ty := ty) hx0 hb hE ((hK.1.2 t0 _ ht0).1 (sh y).2 (fun j => va_rf ((w.2.2.2 y j).map (am_ad B0 sp)))) hty (fun q => by cases q) (by show ¬ (i < 0 ∨ (arrV _ _ _).slots.size ≤ _); rw [arrV_size]; exact hi) (by show (arrV _ _ _).slots[_]? = _; rw [arrV_read _ _ hlt]) rfl rfl hd ?_
    rw [hR]
    exact k0
theorem am_o_iastore {nx a b z : Nat} {v : Value} {o pc : Nat} {lv : AL} {st : List Value} {w : AWd} {q : Option Prop} {t : ASt} {ls : Array Slot} (C : am_Cx p R s m args meth c D aC B0 sp xs L r d) (h6 : 5 ≤ d) (hc : am_chk r.2.1 r.2.2.2.2.1 pc (.iastore, nx, a, b, z, v) = true) (hx : ax (.iastore, nx, a, b, z, v) o (pc, lv, st, w) = some (q, t)) (hq : am_h q) (hW : am_WH D B0 sp aC xs L w H) (hS : va_S (fun q => B0 ≤ q) s.heap H locs) (hl : am_LH (am_ad B0 sp) ls r.2.2.1 lv) (kk : am_Kk p l e R s m args below meth c cells slots Q D B0 sp aC xs L r.2.2.1 w t) : W p l e R s m args below meth c H locs cells slots Q (F0 m pc ls (st.map (am_cv (am_ad B0 sp)))) := by
  obtain ⟨hx0, hb, hml, hr, hlk, hown, hts, hfr, hlo, hin, hK, hX, hbB, hB, hbs⟩ := C
  obtain ⟨hd, hn, hca⟩ := am_chk_inv hc
  have hn : nx = pc + 1 := hn
  subst hn
  match st, hx with
  | .int x :: .int i :: .ref y :: r2, hx =>
    cases hx
    obtain ⟨hp, hs, hi⟩ := hq
    have hp9 : y < am_NP := Nat.lt_of_lt_of_le hp hW.2.1
    have hE := hW.1 y _ (am_ws_get hp)
    rw [am_E_2 hs] at hE
    refine W.iast hx0 hb hE ((hK.1.2 0 _ rfl).1 (sh y).2 (fun j => .int (w.2.1 y j))) (fun q => by cases q) (by show ¬ (i < 0 ∨ (arrV _ _ _).slots.size ≤ _); rw [arrV_size]; exact hi) rfl rfl hd fun H1 e1 e2 e3 => ?_
    refine kk H1 _ ls cells slots (hW.put hp rfl (fun y2 hy => am_E_eq (am_up_ne hy) rfl rfl) (am_up_ne (am_9999 hp9)) ?_ (fun _ => e2) (Nat.le_of_eq e2.symm) e3) (hS.put e2 e3 (am_adB hp9)) hl rfl rfl
    rw [am_E_2 hs]
    show H1[am_ad B0 sp y]? = some (vp_cell (aC 2) ((sh y).2, .inl (am_up w.2.1 y i.toNatClampNeg x y)))
    rw [e1]
    rw [vp_cell_i, vp_cell_i, arrV_store]
    congr 2
    funext q
    by_cases hq : q = i.toNatClampNeg
    · subst hq
      simp [updV, am_up]
    · simp [updV, am_up, hq]
theorem am_o_bastore {nx a b z : Nat} {v : Value} {o pc : Nat} {lv : AL} {st : List Value} {w : AWd} {q : Option Prop} {t : ASt} {ls : Array Slot} (C : am_Cx p R s m args meth c D aC B0 sp xs L r d) (h6 : 5 ≤ d) (hc : am_chk r.2.1 r.2.2.2.2.1 pc (.bastore, nx, a, b, z, v) = true) (hx : ax (.bastore, nx, a, b, z, v) o (pc, lv, st, w) = some (q, t)) (hq : am_h q) (hW : am_WH D B0 sp aC xs L w H) (hS : va_S (fun q => B0 ≤ q) s.heap H locs) (hl : am_LH (am_ad B0 sp) ls r.2.2.1 lv) (kk : am_Kk p l e R s m args below meth c cells slots Q D B0 sp aC xs L r.2.2.1 w t) : W p l e R s m args below meth c H locs cells slots Q (F0 m pc ls (st.map (am_cv (am_ad B0 sp)))) := by
  obtain ⟨hx0, hb, hml, hr, hlk, hown, hts, hfr, hlo, hin, hK, hX, hbB, hB, hbs⟩ := C
  obtain ⟨hd, hn, hca⟩ := am_chk_inv hc
  have hn : nx = pc + 1 := hn
  subst hn
  match st, hx with
  | .int x :: .int i :: .ref y :: r2, hx =>
    cases hx
    obtain ⟨hp, hs, hi, hz⟩ := hq
    have hp9 : y < am_NP := Nat.lt_of_lt_of_le hp hW.2.1
    have hE := hW.1 y _ (am_ws_get hp)
    rw [am_E_3 hs] at hE
    refine W.zast hx0 hb hE ((hK.1.2 1 _ rfl).1 (sh y).2 (fun j => .int (w.2.1 y j))) (fun q => by cases q) (by show ¬ (i < 0 ∨ (arrV _ _ _).slots.size ≤ _); rw [arrV_size]; exact hi) rfl rfl hd fun H1 e1 e2 e3 => ?_
    refine kk H1 _ ls cells slots (hW.put hp rfl (fun y2 hy => am_E_eq (am_up_ne hy) rfl rfl) (am_up_ne (am_9999 hp9)) ?_ (fun _ => e2) (Nat.le_of_eq e2.symm) e3) (hS.put e2 e3 (am_adB hp9)) hl rfl rfl
    rw [am_E_3 hs]
    show H1[am_ad B0 sp y]? = some (vp_cell (aC 3) ((sh y).2, .inl (am_up w.2.1 y i.toNatClampNeg x y)))
    rw [e1]
    rw [vp_cell_i, vp_cell_i, arrV_store, show narrow FieldType.boolean (Value.int x) = Value.int (x &&& 1) from rfl, hz]
    congr 2
    funext q
    by_cases hq : q = i.toNatClampNeg
    · subst hq
      simp [updV, am_up]
    · simp [updV, am_up, hq]
theorem am_o_lastore {nx a b z : Nat} {v : Value} {o pc : Nat} {lv : AL} {st : List Value} {w : AWd} {q : Option Prop} {t : ASt} {ls : Array Slot} (C : am_Cx p R s m args meth c D aC B0 sp xs L r d) (h6 : 5 ≤ d) (hc : am_chk r.2.1 r.2.2.2.2.1 pc (.lastore, nx, a, b, z, v) = true) (hx : ax (.lastore, nx, a, b, z, v) o (pc, lv, st, w) = some (q, t)) (hq : am_h q) (hW : am_WH D B0 sp aC xs L w H) (hS : va_S (fun q => B0 ≤ q) s.heap H locs) (hl : am_LH (am_ad B0 sp) ls r.2.2.1 lv) (kk : am_Kk p l e R s m args below meth c cells slots Q D B0 sp aC xs L r.2.2.1 w t) : W p l e R s m args below meth c H locs cells slots Q (F0 m pc ls (st.map (am_cv (am_ad B0 sp)))) := by
  obtain ⟨hx0, hb, hml, hr, hlk, hown, hts, hfr, hlo, hin, hK, hX, hbB, hB, hbs⟩ := C
  obtain ⟨hd, hn, hca⟩ := am_chk_inv hc
  have hn : nx = pc + 1 := hn
  subst hn
  match st, hx with
  | .long x :: .int i :: .ref y :: r2, hx =>
    cases hx
    obtain ⟨hp, hs, hi⟩ := hq
    have hp9 : y < am_NP := Nat.lt_of_lt_of_le hp hW.2.1
    have hE := hW.1 y _ (am_ws_get hp)
    rw [am_E_4 hs] at hE
    refine W.last hx0 hb hE ((hK.1.2 2 _ rfl).1 (sh y).2 (fun j => .long (w.2.2.1 y j))) (fun q => by cases q) (by show ¬ (i < 0 ∨ (arrV _ _ _).slots.size ≤ _); rw [arrV_size]; exact hi) rfl rfl hd fun H1 e1 e2 e3 => ?_
    refine kk H1 _ ls cells slots (hW.put hp rfl (fun y2 hy => am_E_eq rfl (am_up_ne hy) rfl) rfl ?_ (fun _ => e2) (Nat.le_of_eq e2.symm) e3) (hS.put e2 e3 (am_adB hp9)) hl rfl rfl
    rw [am_E_4 hs]
    show H1[am_ad B0 sp y]? = some (vp_cell (aC 4) ((sh y).2, .inr (.inl (am_up w.2.2.1 y i.toNatClampNeg x y))))
    rw [e1]
    rw [vp_cell_l, vp_cell_l, arrV_store]
    congr 2
    funext q
    by_cases hq : q = i.toNatClampNeg
    · subst hq
      simp [updV, am_up]
    · simp [updV, am_up, hq]
theorem am_o_aastore {nx a b z : Nat} {v : Value} {o pc : Nat} {lv : AL} {st : List Value} {w : AWd} {q : Option Prop} {t : ASt} {ls : Array Slot} (C : am_Cx p R s m args meth c D aC B0 sp xs L r d) (h6 : 5 ≤ d) (hc : am_chk r.2.1 r.2.2.2.2.1 pc (.aastore, nx, a, b, z, v) = true) (hx : ax (.aastore, nx, a, b, z, v) o (pc, lv, st, w) = some (q, t)) (hq : am_h q) (hW : am_WH D B0 sp aC xs L w H) (hS : va_S (fun q => B0 ≤ q) s.heap H locs) (hl : am_LH (am_ad B0 sp) ls r.2.2.1 lv) (kk : am_Kk p l e R s m args below meth c cells slots Q D B0 sp aC xs L r.2.2.1 w t) : W p l e R s m args below meth c H locs cells slots Q (F0 m pc ls (st.map (am_cv (am_ad B0 sp)))) := by
  obtain ⟨hx0, hb, hml, hr, hlk, hown, hts, hfr, hlo, hin, hK, hX, hbB, hB, hbs⟩ := C
  obtain ⟨hd, hn, hca⟩ := am_chk_inv hc
  have hn : nx = pc + 1 := hn
  subst hn
  match st, hx with
  | .ref x :: .int i :: .ref y :: r2, hx =>
    cases hx
    obtain ⟨hp, hv, hs, hi⟩ := hq
    have hp9 : y < am_NP := Nat.lt_of_lt_of_le hp hW.2.1
    have hlt : i.toNatClampNeg < (sh y).2 := Nat.not_le.mp fun q => hi (Or.inr q)
    have h0 : ¬ i < 0 := fun q => hi (Or.inl q)
    have hE := hW.1 y _ (am_ws_get hp)
    have hs3 : (sh y).1 = 5 ∨ (sh y).1 = 6 ∨ (sh y).1 = 7 := by rcases hs with ⟨h, -⟩ | ⟨h, -⟩ <;> simp [h]
    rw [am_E_q hs3] at hE
    have ht : ∃ ci : Nat, ci < 7 ∧ sh x = (1, ci) ∧ ∃ t0 : Nat, (am_tys aC)[t0]? = some (aC (sh y).1, .object (am_RO ci)) := by
      rcases hs with ⟨h1, h2⟩ | ⟨h1, h2⟩ <;> rw [h1]
      · exact ⟨4, by decide, h2, 4, rfl⟩
      · exact ⟨3, by decide, h2, 5, rfl⟩
    obtain ⟨ci, hci, hsx, t0, ht0⟩ := ht
    have hV := hW.1 x _ (am_ws_get hv)
    rw [am_E_obj hsx] at hV
    obtain ⟨r', hr', cellV, g1, g2, g3, -⟩ := hV
    have hcls := (hK.1.1 ci _ (am_vw ci hci)).2
    obtain ⟨kA, comp, k1, k2, k3, -⟩ := (hK.1.2 t0 _ ht0).2
    have hcomp : comp = D.1 ci := Option.some.inj (k3.symm.trans hcls.1)
    subst hcomp
    obtain ⟨kC, hkC, -⟩ := hcls.2
    refine W.aast hx0 hb hE (fun q h => by cases h) (fun h => by cases h) k1 k2 rfl hkC ⟨h0, by show _ < (arrV _ _ _).slots.size; rw [arrV_size]; exact hlt⟩ g1 (fun q h => by rw [g3] at h; cases h) (by rw [g2]; exact hkC) (by rw [g2]; exact va_assign hcls) rfl rfl hd fun H1 e1 e2 e3 => ?_
    refine kk H1 _ ls cells slots (hW.put hp rfl (fun y2 hy => am_E_eq rfl rfl (am_up_ne hy)) rfl ?_ (fun _ => e2) (Nat.le_of_eq e2.symm) e3) (hS.put e2 e3 (am_adB hp9)) hl rfl rfl
    rw [am_E_q hs3]
    show H1[am_ad B0 sp y]? = some (vp_cell (aC (sh y).1) ((sh y).2, .inr (.inr (.inr (.inr (fun j => (am_up w.2.2.2 y i.toNatClampNeg (some x) y j).map (am_ad B0 sp)))))))
    rw [e1]
    rw [vp_cell_q, vp_cell_q, arrV_store]
    congr 2
    funext q
    by_cases hq : q = i.toNatClampNeg
    · subst hq
      simp [updV, am_up, va_rf]
    · simp [updV, am_up, hq]
theorem am_o_arraylength {nx a b z : Nat} {v : Value} {o pc : Nat} {lv : AL} {st : List Value} {w : AWd} {q : Option Prop} {t : ASt} {ls : Array Slot} (C : am_Cx p R s m args meth c D aC B0 sp xs L r d) (h6 : 5 ≤ d) (hc : am_chk r.2.1 r.2.2.2.2.1 pc (.arraylength, nx, a, b, z, v) = true) (hx : ax (.arraylength, nx, a, b, z, v) o (pc, lv, st, w) = some (q, t)) (hq : am_h q) (hW : am_WH D B0 sp aC xs L w H) (hS : va_S (fun q => B0 ≤ q) s.heap H locs) (hl : am_LH (am_ad B0 sp) ls r.2.2.1 lv) (kk : am_Kk p l e R s m args below meth c cells slots Q D B0 sp aC xs L r.2.2.1 w t) : W p l e R s m args below meth c H locs cells slots Q (F0 m pc ls (st.map (am_cv (am_ad B0 sp)))) := by
  obtain ⟨hx0, hb, hml, hr, hlk, hown, hts, hfr, hlo, hin, hK, hX, hbB, hB, hbs⟩ := C
  obtain ⟨hd, hn, hca⟩ := am_chk_inv hc
  have hn : nx = pc + 1 := hn
  subst hn
  match st, hx with
  | .ref y :: r2, hx =>
    cases hx
    have hq : y = 9999 := hq
    subst hq
    have e9 : am_ad B0 sp 9999 = sp 9999 := if_neg (by decide)
    have k0 := (kk H locs ls cells slots hW hS hl rfl rfl)
    refine va_slen hx0 hb hX hbs (fun h9 => absurd h9 (by omega)) hS hd ?_
    rw [← hW.2.2.2.2.1]
    exact k0
end AMO
