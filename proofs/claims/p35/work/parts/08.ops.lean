/-! one step, instruction by instruction -/
theorem am_iinc_inv {nx i : Nat} {v : Value} {lv : AL} {st : List Value} {w : AWd} {q : Option Prop} {t : ASt} (h : am_iinc nx i v lv st w = some (q, t)) : ∃ x y, am_g lv i = some (.int x) ∧ v = .int y ∧ t = (nx, am_s1 lv i (.int (x + y)), st, w) := by
  unfold am_iinc at h
  split at h
  · rename_i x hx
    split at h
    · simp only [Option.some.injEq, Prod.mk.injEq] at h
      exact ⟨x, _, hx, rfl, h.2.symm⟩
    · cases h
  · cases h
theorem am_g_lt : ∀ {l : AL} {i : Nat} {v : Value}, am_g l i = some v → i < l.length := by
  intro l
  induction l with
  | nil => intro i v h; cases h
  | cons u l ih =>
    intro i v h
    cases i with
    | zero => simp
    | succ i => have := ih (i := i) h; simpa using this
theorem am_vw : ∀ a, a < 7 → vwCl[a]? = some (am_RO a, am_T a, am_N a) := by
  intro a h
  match a, h with
  | 0, _ => rfl
  | 1, _ => rfl
  | 2, _ => rfl
  | 3, _ => rfl
  | 4, _ => rfl
  | 5, _ => rfl
  | 6, _ => rfl
  | n + 7, h => omega
theorem am_E_obj {ad : Nat → Nat} {aC : Nat → ClassId} {w : AWd} {p a : Nat} (h : sh p = (1, a)) : am_E ad aC w p = .inr (a, (List.range (am_N a)).map (fun k => cond (am_isI a k) (.int (w.2.1 p k)) (va_rf ((w.2.2.2 p k).map ad)))) := by
  unfold am_E
  rw [h]
  rfl
theorem am_E_2 {ad : Nat → Nat} {aC : Nat → ClassId} {w : AWd} {p : Nat} (h : (sh p).1 = 2) : am_E ad aC w p = .inl (aC 2, (sh p).2, .inl (w.2.1 p)) := by
  unfold am_E
  rw [h]
  rfl
theorem am_E_3 {ad : Nat → Nat} {aC : Nat → ClassId} {w : AWd} {p : Nat} (h : (sh p).1 = 3) : am_E ad aC w p = .inl (aC 3, (sh p).2, .inl (w.2.1 p)) := by
  unfold am_E
  rw [h]
  rfl
theorem am_E_4 {ad : Nat → Nat} {aC : Nat → ClassId} {w : AWd} {p : Nat} (h : (sh p).1 = 4) : am_E ad aC w p = .inl (aC 4, (sh p).2, .inr (.inl (w.2.2.1 p))) := by
  unfold am_E
  rw [h]
  rfl
theorem am_E_q {ad : Nat → Nat} {aC : Nat → ClassId} {w : AWd} {p : Nat} (h : (sh p).1 = 5 ∨ (sh p).1 = 6 ∨ (sh p).1 = 7) : am_E ad aC w p = .inl (aC (sh p).1, (sh p).2, .inr (.inr (.inr (.inr (fun i => (w.2.2.2 p i).map ad))))) := by
  unfold am_E
  rcases h with h | h | h <;> rw [h] <;> rfl
/-- the row of a place depends on what the place holds -/
theorem am_E_eq {ad : Nat → Nat} {aC : Nat → ClassId} {w w' : AWd} {p : Nat} (h1 : w'.2.1 p = w.2.1 p) (h2 : w'.2.2.1 p = w.2.2.1 p) (h3 : w'.2.2.2 p = w.2.2.2 p) : am_E ad aC w' p = am_E ad aC w p := by
  unfold am_E
  rw [h1, h2, h3]
theorem am_up_ne {α : Type} {f : Nat → Nat → α} {p k a : Nat} {x : α} (h : a ≠ p) : am_up f p k x a = f a := by
  funext b
  simp [am_up, h]
theorem am_up_self {f : Nat → Nat → Int32} {p k : Nat} {x : Int32} : am_up f p k x p = upd (f p) k x := by
  funext b
  simp [am_up, upd]
theorem am_up_selfL {f : Nat → Nat → Int64} {p k : Nat} {x : Int64} : am_up f p k x p = vp_updL (f p) k x := by
  funext b
  simp [am_up, vp_updL]
theorem am_row_ne {α : Type} {f : Nat → Nat → α} {p a : Nat} {g : Nat → α} (h : a ≠ p) : am_row f p g a = f a := by
  simp [am_row, h]
theorem am_row_self {α : Type} {f : Nat → Nat → α} {p : Nat} {g : Nat → α} : am_row f p g p = g := by
  simp [am_row]

section AMO
variable {p : Program} {l : Launch} {e : Env} {R : Room} {s : State} {m : MethodId} {args : Array Value} {below : List Frame} {meth : Method} {c : Code} {H : Heap} {locs : List Loc} {cells slots : Nat} {Q : State → Prop}
variable {D : va_G} {B0 : Nat} {sp : Nat → Nat} {aC : Nat → ClassId} {xs : Nat → Int32} {L : Nat} {r : AR} {d : Nat}
theorem am_o_iconst {n : Int} {nx a b z : Nat} {v : Value} {o pc : Nat} {lv : AL} {st : List Value} {w : AWd} {q : Option Prop} {t : ASt} {ls : Array Slot} (C : am_Cx p R s m args meth c D aC B0 sp xs L r d) (h6 : 5 ≤ d) (hc : am_chk r.2.1 r.2.2.2.2.1 pc (.iconst n, nx, a, b, z, v) = true) (hx : ax (.iconst n, nx, a, b, z, v) o (pc, lv, st, w) = some (q, t)) (hq : am_h q) (hW : am_WH D B0 sp aC xs L w H) (hS : va_S (fun q => B0 ≤ q) s.heap H locs) (hl : am_LH (am_ad B0 sp) ls r.2.2.1 lv) (kk : am_Kk p l e R s m args below meth c cells slots Q D B0 sp aC xs L r.2.2.1 w t) : W p l e R s m args below meth c H locs cells slots Q (F0 m pc ls (st.map (am_cv (am_ad B0 sp)))) := by
  obtain ⟨hx0, hb, hml, hr, hlk, hown, hts, hfr, hlo, hin, hK, hX, hbB, hB, hbs⟩ := C
  obtain ⟨hd, hn, hca⟩ := am_chk_inv hc
  have hn : nx = pc + 1 := hn
  subst hn
  have hv : v = .int (Int32.ofInt n) := of_decide_eq_true hca
  subst hv
  cases hx
  exact lv_iconst hx0 hb hd rfl (kk H locs ls cells slots hW hS hl rfl rfl)
theorem am_o_bipush {n : Int} {nx a b z : Nat} {v : Value} {o pc : Nat} {lv : AL} {st : List Value} {w : AWd} {q : Option Prop} {t : ASt} {ls : Array Slot} (C : am_Cx p R s m args meth c D aC B0 sp xs L r d) (h6 : 5 ≤ d) (hc : am_chk r.2.1 r.2.2.2.2.1 pc (.bipush n, nx, a, b, z, v) = true) (hx : ax (.bipush n, nx, a, b, z, v) o (pc, lv, st, w) = some (q, t)) (hq : am_h q) (hW : am_WH D B0 sp aC xs L w H) (hS : va_S (fun q => B0 ≤ q) s.heap H locs) (hl : am_LH (am_ad B0 sp) ls r.2.2.1 lv) (kk : am_Kk p l e R s m args below meth c cells slots Q D B0 sp aC xs L r.2.2.1 w t) : W p l e R s m args below meth c H locs cells slots Q (F0 m pc ls (st.map (am_cv (am_ad B0 sp)))) := by
  obtain ⟨hx0, hb, hml, hr, hlk, hown, hts, hfr, hlo, hin, hK, hX, hbB, hB, hbs⟩ := C
  obtain ⟨hd, hn, hca⟩ := am_chk_inv hc
  have hn : nx = pc + 2 := hn
  subst hn
  have hv : v = .int (Int8.ofInt n).toInt32 := of_decide_eq_true hca
  subst hv
  cases hx
  exact lv_bipush hx0 hb hd rfl (kk H locs ls cells slots hW hS hl rfl rfl)
theorem am_o_sipush {n : Int} {nx a b z : Nat} {v : Value} {o pc : Nat} {lv : AL} {st : List Value} {w : AWd} {q : Option Prop} {t : ASt} {ls : Array Slot} (C : am_Cx p R s m args meth c D aC B0 sp xs L r d) (h6 : 5 ≤ d) (hc : am_chk r.2.1 r.2.2.2.2.1 pc (.sipush n, nx, a, b, z, v) = true) (hx : ax (.sipush n, nx, a, b, z, v) o (pc, lv, st, w) = some (q, t)) (hq : am_h q) (hW : am_WH D B0 sp aC xs L w H) (hS : va_S (fun q => B0 ≤ q) s.heap H locs) (hl : am_LH (am_ad B0 sp) ls r.2.2.1 lv) (kk : am_Kk p l e R s m args below meth c cells slots Q D B0 sp aC xs L r.2.2.1 w t) : W p l e R s m args below meth c H locs cells slots Q (F0 m pc ls (st.map (am_cv (am_ad B0 sp)))) := by
  obtain ⟨hx0, hb, hml, hr, hlk, hown, hts, hfr, hlo, hin, hK, hX, hbB, hB, hbs⟩ := C
  obtain ⟨hd, hn, hca⟩ := am_chk_inv hc
  have hn : nx = pc + 3 := hn
  subst hn
  have hv : v = .int (Int16.ofInt n).toInt32 := of_decide_eq_true hca
  subst hv
  cases hx
  exact lv_sipush hx0 hb hd rfl (kk H locs ls cells slots hW hS hl rfl rfl)
theorem am_o_lconst {n : Fin 2} {nx a b z : Nat} {v : Value} {o pc : Nat} {lv : AL} {st : List Value} {w : AWd} {q : Option Prop} {t : ASt} {ls : Array Slot} (C : am_Cx p R s m args meth c D aC B0 sp xs L r d) (h6 : 5 ≤ d) (hc : am_chk r.2.1 r.2.2.2.2.1 pc (.lconst n, nx, a, b, z, v) = true) (hx : ax (.lconst n, nx, a, b, z, v) o (pc, lv, st, w) = some (q, t)) (hq : am_h q) (hW : am_WH D B0 sp aC xs L w H) (hS : va_S (fun q => B0 ≤ q) s.heap H locs) (hl : am_LH (am_ad B0 sp) ls r.2.2.1 lv) (kk : am_Kk p l e R s m args below meth c cells slots Q D B0 sp aC xs L r.2.2.1 w t) : W p l e R s m args below meth c H locs cells slots Q (F0 m pc ls (st.map (am_cv (am_ad B0 sp)))) := by
  obtain ⟨hx0, hb, hml, hr, hlk, hown, hts, hfr, hlo, hin, hK, hX, hbB, hB, hbs⟩ := C
  obtain ⟨hd, hn, hca⟩ := am_chk_inv hc
  have hn : nx = pc + 1 := hn
  subst hn
  have hv : v = .long (Int64.ofNat n) := of_decide_eq_true hca
  subst hv
  cases hx
  exact lv_lconst hx0 hb hd rfl (kk H locs ls cells slots hW hS hl rfl rfl)
theorem am_o_iload_n {k : Fin 4} {nx a b z : Nat} {v : Value} {o pc : Nat} {lv : AL} {st : List Value} {w : AWd} {q : Option Prop} {t : ASt} {ls : Array Slot} (C : am_Cx p R s m args meth c D aC B0 sp xs L r d) (h6 : 5 ≤ d) (hc : am_chk r.2.1 r.2.2.2.2.1 pc (.iload_n k, nx, a, b, z, v) = true) (hx : ax (.iload_n k, nx, a, b, z, v) o (pc, lv, st, w) = some (q, t)) (hq : am_h q) (hW : am_WH D B0 sp aC xs L w H) (hS : va_S (fun q => B0 ≤ q) s.heap H locs) (hl : am_LH (am_ad B0 sp) ls r.2.2.1 lv) (kk : am_Kk p l e R s m args below meth c cells slots Q D B0 sp aC xs L r.2.2.1 w t) : W p l e R s m args below meth c H locs cells slots Q (F0 m pc ls (st.map (am_cv (am_ad B0 sp)))) := by
  obtain ⟨hx0, hb, hml, hr, hlk, hown, hts, hfr, hlo, hin, hK, hX, hbB, hB, hbs⟩ := C
  obtain ⟨hd, hn, hca⟩ := am_chk_inv hc
  have hn : nx = pc + 1 := hn
  subst hn
  obtain ⟨x, hg, rfl⟩ := am_ld_inv hx
  exact lv_iload_n hx0 hb hd rfl (hl.2.2.2 _ _ hg) (kk H locs ls cells slots hW hS hl rfl rfl)
theorem am_o_iload {k : Nat} {nx a b z : Nat} {v : Value} {o pc : Nat} {lv : AL} {st : List Value} {w : AWd} {q : Option Prop} {t : ASt} {ls : Array Slot} (C : am_Cx p R s m args meth c D aC B0 sp xs L r d) (h6 : 5 ≤ d) (hc : am_chk r.2.1 r.2.2.2.2.1 pc (.iload k, nx, a, b, z, v) = true) (hx : ax (.iload k, nx, a, b, z, v) o (pc, lv, st, w) = some (q, t)) (hq : am_h q) (hW : am_WH D B0 sp aC xs L w H) (hS : va_S (fun q => B0 ≤ q) s.heap H locs) (hl : am_LH (am_ad B0 sp) ls r.2.2.1 lv) (kk : am_Kk p l e R s m args below meth c cells slots Q D B0 sp aC xs L r.2.2.1 w t) : W p l e R s m args below meth c H locs cells slots Q (F0 m pc ls (st.map (am_cv (am_ad B0 sp)))) := by
  obtain ⟨hx0, hb, hml, hr, hlk, hown, hts, hfr, hlo, hin, hK, hX, hbB, hB, hbs⟩ := C
  obtain ⟨hd, hn, hca⟩ := am_chk_inv hc
  have hn : nx = pc + 2 := hn
  subst hn
  obtain ⟨x, hg, rfl⟩ := am_ld_inv hx
  exact lv_iload hx0 hb hd (hl.2.2.2 _ _ hg) (kk H locs ls cells slots hW hS hl rfl rfl)
theorem am_o_lload_n {k : Fin 4} {nx a b z : Nat} {v : Value} {o pc : Nat} {lv : AL} {st : List Value} {w : AWd} {q : Option Prop} {t : ASt} {ls : Array Slot} (C : am_Cx p R s m args meth c D aC B0 sp xs L r d) (h6 : 5 ≤ d) (hc : am_chk r.2.1 r.2.2.2.2.1 pc (.lload_n k, nx, a, b, z, v) = true) (hx : ax (.lload_n k, nx, a, b, z, v) o (pc, lv, st, w) = some (q, t)) (hq : am_h q) (hW : am_WH D B0 sp aC xs L w H) (hS : va_S (fun q => B0 ≤ q) s.heap H locs) (hl : am_LH (am_ad B0 sp) ls r.2.2.1 lv) (kk : am_Kk p l e R s m args below meth c cells slots Q D B0 sp aC xs L r.2.2.1 w t) : W p l e R s m args below meth c H locs cells slots Q (F0 m pc ls (st.map (am_cv (am_ad B0 sp)))) := by
  obtain ⟨hx0, hb, hml, hr, hlk, hown, hts, hfr, hlo, hin, hK, hX, hbB, hB, hbs⟩ := C
  obtain ⟨hd, hn, hca⟩ := am_chk_inv hc
  have hn : nx = pc + 1 := hn
  subst hn
  obtain ⟨x, hg, rfl⟩ := am_ldl_inv hx
  exact lv_lload_n hx0 hb hd rfl (hl.2.2.2 _ _ hg) (kk H locs ls cells slots hW hS hl rfl rfl)
theorem am_o_lload {k : Nat} {nx a b z : Nat} {v : Value} {o pc : Nat} {lv : AL} {st : List Value} {w : AWd} {q : Option Prop} {t : ASt} {ls : Array Slot} (C : am_Cx p R s m args meth c D aC B0 sp xs L r d) (h6 : 5 ≤ d) (hc : am_chk r.2.1 r.2.2.2.2.1 pc (.lload k, nx, a, b, z, v) = true) (hx : ax (.lload k, nx, a, b, z, v) o (pc, lv, st, w) = some (q, t)) (hq : am_h q) (hW : am_WH D B0 sp aC xs L w H) (hS : va_S (fun q => B0 ≤ q) s.heap H locs) (hl : am_LH (am_ad B0 sp) ls r.2.2.1 lv) (kk : am_Kk p l e R s m args below meth c cells slots Q D B0 sp aC xs L r.2.2.1 w t) : W p l e R s m args below meth c H locs cells slots Q (F0 m pc ls (st.map (am_cv (am_ad B0 sp)))) := by
  obtain ⟨hx0, hb, hml, hr, hlk, hown, hts, hfr, hlo, hin, hK, hX, hbB, hB, hbs⟩ := C
  obtain ⟨hd, hn, hca⟩ := am_chk_inv hc
  have hn : nx = pc + 2 := hn
  subst hn
  obtain ⟨x, hg, rfl⟩ := am_ldl_inv hx
  exact lv_lload hx0 hb hd (hl.2.2.2 _ _ hg) (kk H locs ls cells slots hW hS hl rfl rfl)
theorem am_o_aload_n {k : Fin 4} {nx a b z : Nat} {v : Value} {o pc : Nat} {lv : AL} {st : List Value} {w : AWd} {q : Option Prop} {t : ASt} {ls : Array Slot} (C : am_Cx p R s m args meth c D aC B0 sp xs L r d) (h6 : 5 ≤ d) (hc : am_chk r.2.1 r.2.2.2.2.1 pc (.aload_n k, nx, a, b, z, v) = true) (hx : ax (.aload_n k, nx, a, b, z, v) o (pc, lv, st, w) = some (q, t)) (hq : am_h q) (hW : am_WH D B0 sp aC xs L w H) (hS : va_S (fun q => B0 ≤ q) s.heap H locs) (hl : am_LH (am_ad B0 sp) ls r.2.2.1 lv) (kk : am_Kk p l e R s m args below meth c cells slots Q D B0 sp aC xs L r.2.2.1 w t) : W p l e R s m args below meth c H locs cells slots Q (F0 m pc ls (st.map (am_cv (am_ad B0 sp)))) := by
  obtain ⟨hx0, hb, hml, hr, hlk, hown, hts, hfr, hlo, hin, hK, hX, hbB, hB, hbs⟩ := C
  obtain ⟨hd, hn, hca⟩ := am_chk_inv hc
  have hn : nx = pc + 1 := hn
  subst hn
  obtain ⟨x, hg, rfl⟩ := am_lda_inv hx
  exact lv_aload_n hx0 hb hd rfl (hl.2.2.2 _ _ hg) (kk H locs ls cells slots hW hS hl rfl rfl)
theorem am_o_istore_n {k : Fin 4} {nx a b z : Nat} {v : Value} {o pc : Nat} {lv : AL} {st : List Value} {w : AWd} {q : Option Prop} {t : ASt} {ls : Array Slot} (C : am_Cx p R s m args meth c D aC B0 sp xs L r d) (h6 : 5 ≤ d) (hc : am_chk r.2.1 r.2.2.2.2.1 pc (.istore_n k, nx, a, b, z, v) = true) (hx : ax (.istore_n k, nx, a, b, z, v) o (pc, lv, st, w) = some (q, t)) (hq : am_h q) (hW : am_WH D B0 sp aC xs L w H) (hS : va_S (fun q => B0 ≤ q) s.heap H locs) (hl : am_LH (am_ad B0 sp) ls r.2.2.1 lv) (kk : am_Kk p l e R s m args below meth c cells slots Q D B0 sp aC xs L r.2.2.1 w t) : W p l e R s m args below meth c H locs cells slots Q (F0 m pc ls (st.map (am_cv (am_ad B0 sp)))) := by
  obtain ⟨hx0, hb, hml, hr, hlk, hown, hts, hfr, hlo, hin, hK, hX, hbB, hB, hbs⟩ := C
  obtain ⟨hd, hn, hca⟩ := am_chk_inv hc
  have hn : nx = pc + 1 := hn
  subst hn
  obtain ⟨x, r2, rfl, hi, rfl⟩ := am_sti_inv hx
  rw [hl.2.2.1] at hi
  exact lv_istore_n hx0 hb hd rfl hl.has hi rfl (fun ls2 hl2 => kk H locs ls2 cells slots hW hS (hl.st1 (v := .int x) hi hl2) rfl rfl)
theorem am_o_istore {k : Nat} {nx a b z : Nat} {v : Value} {o pc : Nat} {lv : AL} {st : List Value} {w : AWd} {q : Option Prop} {t : ASt} {ls : Array Slot} (C : am_Cx p R s m args meth c D aC B0 sp xs L r d) (h6 : 5 ≤ d) (hc : am_chk r.2.1 r.2.2.2.2.1 pc (.istore k, nx, a, b, z, v) = true) (hx : ax (.istore k, nx, a, b, z, v) o (pc, lv, st, w) = some (q, t)) (hq : am_h q) (hW : am_WH D B0 sp aC xs L w H) (hS : va_S (fun q => B0 ≤ q) s.heap H locs) (hl : am_LH (am_ad B0 sp) ls r.2.2.1 lv) (kk : am_Kk p l e R s m args below meth c cells slots Q D B0 sp aC xs L r.2.2.1 w t) : W p l e R s m args below meth c H locs cells slots Q (F0 m pc ls (st.map (am_cv (am_ad B0 sp)))) := by
  obtain ⟨hx0, hb, hml, hr, hlk, hown, hts, hfr, hlo, hin, hK, hX, hbB, hB, hbs⟩ := C
  obtain ⟨hd, hn, hca⟩ := am_chk_inv hc
  have hn : nx = pc + 2 := hn
  subst hn
  obtain ⟨x, r2, rfl, hi, rfl⟩ := am_sti_inv hx
  rw [hl.2.2.1] at hi
  exact lv_istore hx0 hb hd hl.has hi rfl (fun ls2 hl2 => kk H locs ls2 cells slots hW hS (hl.st1 (v := .int x) hi hl2) rfl rfl)
theorem am_o_lstore_n {k : Fin 4} {nx a b z : Nat} {v : Value} {o pc : Nat} {lv : AL} {st : List Value} {w : AWd} {q : Option Prop} {t : ASt} {ls : Array Slot} (C : am_Cx p R s m args meth c D aC B0 sp xs L r d) (h6 : 5 ≤ d) (hc : am_chk r.2.1 r.2.2.2.2.1 pc (.lstore_n k, nx, a, b, z, v) = true) (hx : ax (.lstore_n k, nx, a, b, z, v) o (pc, lv, st, w) = some (q, t)) (hq : am_h q) (hW : am_WH D B0 sp aC xs L w H) (hS : va_S (fun q => B0 ≤ q) s.heap H locs) (hl : am_LH (am_ad B0 sp) ls r.2.2.1 lv) (kk : am_Kk p l e R s m args below meth c cells slots Q D B0 sp aC xs L r.2.2.1 w t) : W p l e R s m args below meth c H locs cells slots Q (F0 m pc ls (st.map (am_cv (am_ad B0 sp)))) := by
  obtain ⟨hx0, hb, hml, hr, hlk, hown, hts, hfr, hlo, hin, hK, hX, hbB, hB, hbs⟩ := C
  obtain ⟨hd, hn, hca⟩ := am_chk_inv hc
  have hn : nx = pc + 1 := hn
  subst hn
  obtain ⟨x, r2, rfl, hi, rfl⟩ := am_stl_inv hx
  rw [hl.2.2.1] at hi
  exact lv_lstore_n hx0 hb hd rfl hl.has hi rfl (fun ls2 hl2 => kk H locs ls2 cells slots hW hS (hl.st2 (v := .long x) hi hl2) rfl rfl)
theorem am_o_lstore {k : Nat} {nx a b z : Nat} {v : Value} {o pc : Nat} {lv : AL} {st : List Value} {w : AWd} {q : Option Prop} {t : ASt} {ls : Array Slot} (C : am_Cx p R s m args meth c D aC B0 sp xs L r d) (h6 : 5 ≤ d) (hc : am_chk r.2.1 r.2.2.2.2.1 pc (.lstore k, nx, a, b, z, v) = true) (hx : ax (.lstore k, nx, a, b, z, v) o (pc, lv, st, w) = some (q, t)) (hq : am_h q) (hW : am_WH D B0 sp aC xs L w H) (hS : va_S (fun q => B0 ≤ q) s.heap H locs) (hl : am_LH (am_ad B0 sp) ls r.2.2.1 lv) (kk : am_Kk p l e R s m args below meth c cells slots Q D B0 sp aC xs L r.2.2.1 w t) : W p l e R s m args below meth c H locs cells slots Q (F0 m pc ls (st.map (am_cv (am_ad B0 sp)))) := by
  obtain ⟨hx0, hb, hml, hr, hlk, hown, hts, hfr, hlo, hin, hK, hX, hbB, hB, hbs⟩ := C
  obtain ⟨hd, hn, hca⟩ := am_chk_inv hc
  have hn : nx = pc + 2 := hn
  subst hn
  obtain ⟨x, r2, rfl, hi, rfl⟩ := am_stl_inv hx
  rw [hl.2.2.1] at hi
  exact lv_lstore hx0 hb hd hl.has hi rfl (fun ls2 hl2 => kk H locs ls2 cells slots hW hS (hl.st2 (v := .long x) hi hl2) rfl rfl)
theorem am_o_astore_n {k : Fin 4} {nx a b z : Nat} {v : Value} {o pc : Nat} {lv : AL} {st : List Value} {w : AWd} {q : Option Prop} {t : ASt} {ls : Array Slot} (C : am_Cx p R s m args meth c D aC B0 sp xs L r d) (h6 : 5 ≤ d) (hc : am_chk r.2.1 r.2.2.2.2.1 pc (.astore_n k, nx, a, b, z, v) = true) (hx : ax (.astore_n k, nx, a, b, z, v) o (pc, lv, st, w) = some (q, t)) (hq : am_h q) (hW : am_WH D B0 sp aC xs L w H) (hS : va_S (fun q => B0 ≤ q) s.heap H locs) (hl : am_LH (am_ad B0 sp) ls r.2.2.1 lv) (kk : am_Kk p l e R s m args below meth c cells slots Q D B0 sp aC xs L r.2.2.1 w t) : W p l e R s m args below meth c H locs cells slots Q (F0 m pc ls (st.map (am_cv (am_ad B0 sp)))) := by
  obtain ⟨hx0, hb, hml, hr, hlk, hown, hts, hfr, hlo, hin, hK, hX, hbB, hB, hbs⟩ := C
  obtain ⟨hd, hn, hca⟩ := am_chk_inv hc
  have hn : nx = pc + 1 := hn
  subst hn
  obtain ⟨x, r2, rfl, hi, rfl⟩ := am_sta_inv hx
  rw [hl.2.2.1] at hi
  exact lv_astore_n hx0 hb hd rfl hl.has hi rfl (fun ls2 hl2 => kk H locs ls2 cells slots hW hS (hl.st1 (v := .ref x) hi hl2) rfl rfl)
theorem am_o_iinc {k : Nat} {n : Int} {nx a b z : Nat} {v : Value} {o pc : Nat} {lv : AL} {st : List Value} {w : AWd} {q : Option Prop} {t : ASt} {ls : Array Slot} (C : am_Cx p R s m args meth c D aC B0 sp xs L r d) (h6 : 5 ≤ d) (hc : am_chk r.2.1 r.2.2.2.2.1 pc (.iinc k n, nx, a, b, z, v) = true) (hx : ax (.iinc k n, nx, a, b, z, v) o (pc, lv, st, w) = some (q, t)) (hq : am_h q) (hW : am_WH D B0 sp aC xs L w H) (hS : va_S (fun q => B0 ≤ q) s.heap H locs) (hl : am_LH (am_ad B0 sp) ls r.2.2.1 lv) (kk : am_Kk p l e R s m args below meth c cells slots Q D B0 sp aC xs L r.2.2.1 w t) : W p l e R s m args below meth c H locs cells slots Q (F0 m pc ls (st.map (am_cv (am_ad B0 sp)))) := by
  obtain ⟨hx0, hb, hml, hr, hlk, hown, hts, hfr, hlo, hin, hK, hX, hbB, hB, hbs⟩ := C
  obtain ⟨hd, hn, hca⟩ := am_chk_inv hc
  have hn : nx = pc + 3 := hn
  subst hn
  have hv : v = .int (Int32.ofInt n) := of_decide_eq_true hca
  obtain ⟨x, y, hg, hv2, rfl⟩ := am_iinc_inv hx
  rw [hv] at hv2
  cases hv2
  have hi : k < r.2.2.1 := by rw [← hl.2.2.1]; exact am_g_lt hg
  obtain ⟨j, hj⟩ := List.getElem?_of_mem ((am_al_mem (ad := am_ad B0 sp) lv 0 (k, .int x)).mpr ⟨k, .int x, by simp [am_cv], hg⟩)
  exact lv_iinc hx0 hb hd hl.has hj rfl hi rfl (fun ls2 hl2 => kk H locs ls2 cells slots hW hS (hl.st1 (v := .int (x + Int32.ofInt n)) hi hl2) rfl rfl)
theorem am_o_iadd {nx a b z : Nat} {v : Value} {o pc : Nat} {lv : AL} {st : List Value} {w : AWd} {q : Option Prop} {t : ASt} {ls : Array Slot} (C : am_Cx p R s m args meth c D aC B0 sp xs L r d) (h6 : 5 ≤ d) (hc : am_chk r.2.1 r.2.2.2.2.1 pc (.iadd, nx, a, b, z, v) = true) (hx : ax (.iadd, nx, a, b, z, v) o (pc, lv, st, w) = some (q, t)) (hq : am_h q) (hW : am_WH D B0 sp aC xs L w H) (hS : va_S (fun q => B0 ≤ q) s.heap H locs) (hl : am_LH (am_ad B0 sp) ls r.2.2.1 lv) (kk : am_Kk p l e R s m args below meth c cells slots Q D B0 sp aC xs L r.2.2.1 w t) : W p l e R s m args below meth c H locs cells slots Q (F0 m pc ls (st.map (am_cv (am_ad B0 sp)))) := by
  obtain ⟨hx0, hb, hml, hr, hlk, hown, hts, hfr, hlo, hin, hK, hX, hbB, hB, hbs⟩ := C
  obtain ⟨hd, hn, hca⟩ := am_chk_inv hc
  have hn : nx = pc + 1 := hn
  subst hn
  obtain ⟨x, y, r2, rfl, rfl⟩ := am_ii_inv hx
  exact lv_iadd hx0 hb hd (kk H locs ls cells slots hW hS hl rfl rfl)
theorem am_o_isub {nx a b z : Nat} {v : Value} {o pc : Nat} {lv : AL} {st : List Value} {w : AWd} {q : Option Prop} {t : ASt} {ls : Array Slot} (C : am_Cx p R s m args meth c D aC B0 sp xs L r d) (h6 : 5 ≤ d) (hc : am_chk r.2.1 r.2.2.2.2.1 pc (.isub, nx, a, b, z, v) = true) (hx : ax (.isub, nx, a, b, z, v) o (pc, lv, st, w) = some (q, t)) (hq : am_h q) (hW : am_WH D B0 sp aC xs L w H) (hS : va_S (fun q => B0 ≤ q) s.heap H locs) (hl : am_LH (am_ad B0 sp) ls r.2.2.1 lv) (kk : am_Kk p l e R s m args below meth c cells slots Q D B0 sp aC xs L r.2.2.1 w t) : W p l e R s m args below meth c H locs cells slots Q (F0 m pc ls (st.map (am_cv (am_ad B0 sp)))) := by
  obtain ⟨hx0, hb, hml, hr, hlk, hown, hts, hfr, hlo, hin, hK, hX, hbB, hB, hbs⟩ := C
  obtain ⟨hd, hn, hca⟩ := am_chk_inv hc
  have hn : nx = pc + 1 := hn
  subst hn
  obtain ⟨x, y, r2, rfl, rfl⟩ := am_ii_inv hx
  exact lv_isub hx0 hb hd (kk H locs ls cells slots hW hS hl rfl rfl)
theorem am_o_imul {nx a b z : Nat} {v : Value} {o pc : Nat} {lv : AL} {st : List Value} {w : AWd} {q : Option Prop} {t : ASt} {ls : Array Slot} (C : am_Cx p R s m args meth c D aC B0 sp xs L r d) (h6 : 5 ≤ d) (hc : am_chk r.2.1 r.2.2.2.2.1 pc (.imul, nx, a, b, z, v) = true) (hx : ax (.imul, nx, a, b, z, v) o (pc, lv, st, w) = some (q, t)) (hq : am_h q) (hW : am_WH D B0 sp aC xs L w H) (hS : va_S (fun q => B0 ≤ q) s.heap H locs) (hl : am_LH (am_ad B0 sp) ls r.2.2.1 lv) (kk : am_Kk p l e R s m args below meth c cells slots Q D B0 sp aC xs L r.2.2.1 w t) : W p l e R s m args below meth c H locs cells slots Q (F0 m pc ls (st.map (am_cv (am_ad B0 sp)))) := by
  obtain ⟨hx0, hb, hml, hr, hlk, hown, hts, hfr, hlo, hin, hK, hX, hbB, hB, hbs⟩ := C
  obtain ⟨hd, hn, hca⟩ := am_chk_inv hc
  have hn : nx = pc + 1 := hn
  subst hn
  obtain ⟨x, y, r2, rfl, rfl⟩ := am_ii_inv hx
  exact lv_imul hx0 hb hd (kk H locs ls cells slots hW hS hl rfl rfl)
theorem am_o_iand {nx a b z : Nat} {v : Value} {o pc : Nat} {lv : AL} {st : List Value} {w : AWd} {q : Option Prop} {t : ASt} {ls : Array Slot} (C : am_Cx p R s m args meth c D aC B0 sp xs L r d) (h6 : 5 ≤ d) (hc : am_chk r.2.1 r.2.2.2.2.1 pc (.iand, nx, a, b, z, v) = true) (hx : ax (.iand, nx, a, b, z, v) o (pc, lv, st, w) = some (q, t)) (hq : am_h q) (hW : am_WH D B0 sp aC xs L w H) (hS : va_S (fun q => B0 ≤ q) s.heap H locs) (hl : am_LH (am_ad B0 sp) ls r.2.2.1 lv) (kk : am_Kk p l e R s m args below meth c cells slots Q D B0 sp aC xs L r.2.2.1 w t) : W p l e R s m args below meth c H locs cells slots Q (F0 m pc ls (st.map (am_cv (am_ad B0 sp)))) := by
  obtain ⟨hx0, hb, hml, hr, hlk, hown, hts, hfr, hlo, hin, hK, hX, hbB, hB, hbs⟩ := C
  obtain ⟨hd, hn, hca⟩ := am_chk_inv hc
  have hn : nx = pc + 1 := hn
  subst hn
  obtain ⟨x, y, r2, rfl, rfl⟩ := am_ii_inv hx
  exact lv_iand hx0 hb hd (kk H locs ls cells slots hW hS hl rfl rfl)
theorem am_o_ior {nx a b z : Nat} {v : Value} {o pc : Nat} {lv : AL} {st : List Value} {w : AWd} {q : Option Prop} {t : ASt} {ls : Array Slot} (C : am_Cx p R s m args meth c D aC B0 sp xs L r d) (h6 : 5 ≤ d) (hc : am_chk r.2.1 r.2.2.2.2.1 pc (.ior, nx, a, b, z, v) = true) (hx : ax (.ior, nx, a, b, z, v) o (pc, lv, st, w) = some (q, t)) (hq : am_h q) (hW : am_WH D B0 sp aC xs L w H) (hS : va_S (fun q => B0 ≤ q) s.heap H locs) (hl : am_LH (am_ad B0 sp) ls r.2.2.1 lv) (kk : am_Kk p l e R s m args below meth c cells slots Q D B0 sp aC xs L r.2.2.1 w t) : W p l e R s m args below meth c H locs cells slots Q (F0 m pc ls (st.map (am_cv (am_ad B0 sp)))) := by
  obtain ⟨hx0, hb, hml, hr, hlk, hown, hts, hfr, hlo, hin, hK, hX, hbB, hB, hbs⟩ := C
  obtain ⟨hd, hn, hca⟩ := am_chk_inv hc
  have hn : nx = pc + 1 := hn
  subst hn
  obtain ⟨x, y, r2, rfl, rfl⟩ := am_ii_inv hx
  exact lv_ior hx0 hb hd (kk H locs ls cells slots hW hS hl rfl rfl)
theorem am_o_ishl {nx a b z : Nat} {v : Value} {o pc : Nat} {lv : AL} {st : List Value} {w : AWd} {q : Option Prop} {t : ASt} {ls : Array Slot} (C : am_Cx p R s m args meth c D aC B0 sp xs L r d) (h6 : 5 ≤ d) (hc : am_chk r.2.1 r.2.2.2.2.1 pc (.ishl, nx, a, b, z, v) = true) (hx : ax (.ishl, nx, a, b, z, v) o (pc, lv, st, w) = some (q, t)) (hq : am_h q) (hW : am_WH D B0 sp aC xs L w H) (hS : va_S (fun q => B0 ≤ q) s.heap H locs) (hl : am_LH (am_ad B0 sp) ls r.2.2.1 lv) (kk : am_Kk p l e R s m args below meth c cells slots Q D B0 sp aC xs L r.2.2.1 w t) : W p l e R s m args below meth c H locs cells slots Q (F0 m pc ls (st.map (am_cv (am_ad B0 sp)))) := by
  obtain ⟨hx0, hb, hml, hr, hlk, hown, hts, hfr, hlo, hin, hK, hX, hbB, hB, hbs⟩ := C
  obtain ⟨hd, hn, hca⟩ := am_chk_inv hc
  have hn : nx = pc + 1 := hn
  subst hn
  obtain ⟨x, y, r2, rfl, rfl⟩ := am_ii_inv hx
  exact lv_ishl hx0 hb hd (kk H locs ls cells slots hW hS hl rfl rfl)
theorem am_o_ishr {nx a b z : Nat} {v : Value} {o pc : Nat} {lv : AL} {st : List Value} {w : AWd} {q : Option Prop} {t : ASt} {ls : Array Slot} (C : am_Cx p R s m args meth c D aC B0 sp xs L r d) (h6 : 5 ≤ d) (hc : am_chk r.2.1 r.2.2.2.2.1 pc (.ishr, nx, a, b, z, v) = true) (hx : ax (.ishr, nx, a, b, z, v) o (pc, lv, st, w) = some (q, t)) (hq : am_h q) (hW : am_WH D B0 sp aC xs L w H) (hS : va_S (fun q => B0 ≤ q) s.heap H locs) (hl : am_LH (am_ad B0 sp) ls r.2.2.1 lv) (kk : am_Kk p l e R s m args below meth c cells slots Q D B0 sp aC xs L r.2.2.1 w t) : W p l e R s m args below meth c H locs cells slots Q (F0 m pc ls (st.map (am_cv (am_ad B0 sp)))) := by
  obtain ⟨hx0, hb, hml, hr, hlk, hown, hts, hfr, hlo, hin, hK, hX, hbB, hB, hbs⟩ := C
  obtain ⟨hd, hn, hca⟩ := am_chk_inv hc
  have hn : nx = pc + 1 := hn
  subst hn
  obtain ⟨x, y, r2, rfl, rfl⟩ := am_ii_inv hx
  exact lv_ishr hx0 hb hd (kk H locs ls cells slots hW hS hl rfl rfl)
theorem am_o_iushr {nx a b z : Nat} {v : Value} {o pc : Nat} {lv : AL} {st : List Value} {w : AWd} {q : Option Prop} {t : ASt} {ls : Array Slot} (C : am_Cx p R s m args meth c D aC B0 sp xs L r d) (h6 : 5 ≤ d) (hc : am_chk r.2.1 r.2.2.2.2.1 pc (.iushr, nx, a, b, z, v) = true) (hx : ax (.iushr, nx, a, b, z, v) o (pc, lv, st, w) = some (q, t)) (hq : am_h q) (hW : am_WH D B0 sp aC xs L w H) (hS : va_S (fun q => B0 ≤ q) s.heap H locs) (hl : am_LH (am_ad B0 sp) ls r.2.2.1 lv) (kk : am_Kk p l e R s m args below meth c cells slots Q D B0 sp aC xs L r.2.2.1 w t) : W p l e R s m args below meth c H locs cells slots Q (F0 m pc ls (st.map (am_cv (am_ad B0 sp)))) := by
  obtain ⟨hx0, hb, hml, hr, hlk, hown, hts, hfr, hlo, hin, hK, hX, hbB, hB, hbs⟩ := C
  obtain ⟨hd, hn, hca⟩ := am_chk_inv hc
  have hn : nx = pc + 1 := hn
  subst hn
  obtain ⟨x, y, r2, rfl, rfl⟩ := am_ii_inv hx
  exact lv_iushr hx0 hb hd rfl (kk H locs ls cells slots hW hS hl rfl rfl)
theorem am_o_idiv {nx a b z : Nat} {v : Value} {o pc : Nat} {lv : AL} {st : List Value} {w : AWd} {q : Option Prop} {t : ASt} {ls : Array Slot} (C : am_Cx p R s m args meth c D aC B0 sp xs L r d) (h6 : 5 ≤ d) (hc : am_chk r.2.1 r.2.2.2.2.1 pc (.idiv, nx, a, b, z, v) = true) (hx : ax (.idiv, nx, a, b, z, v) o (pc, lv, st, w) = some (q, t)) (hq : am_h q) (hW : am_WH D B0 sp aC xs L w H) (hS : va_S (fun q => B0 ≤ q) s.heap H locs) (hl : am_LH (am_ad B0 sp) ls r.2.2.1 lv) (kk : am_Kk p l e R s m args below meth c cells slots Q D B0 sp aC xs L r.2.2.1 w t) : W p l e R s m args below meth c H locs cells slots Q (F0 m pc ls (st.map (am_cv (am_ad B0 sp)))) := by
  obtain ⟨hx0, hb, hml, hr, hlk, hown, hts, hfr, hlo, hin, hK, hX, hbB, hB, hbs⟩ := C
  obtain ⟨hd, hn, hca⟩ := am_chk_inv hc
  have hn : nx = pc + 1 := hn
  subst hn
  obtain ⟨x, y, r2, rfl, rfl, rfl⟩ := am_dv_inv hx
  exact lv_idiv hx0 hb hd hq (kk H locs ls cells slots hW hS hl rfl rfl)
theorem am_o_irem {nx a b z : Nat} {v : Value} {o pc : Nat} {lv : AL} {st : List Value} {w : AWd} {q : Option Prop} {t : ASt} {ls : Array Slot} (C : am_Cx p R s m args meth c D aC B0 sp xs L r d) (h6 : 5 ≤ d) (hc : am_chk r.2.1 r.2.2.2.2.1 pc (.irem, nx, a, b, z, v) = true) (hx : ax (.irem, nx, a, b, z, v) o (pc, lv, st, w) = some (q, t)) (hq : am_h q) (hW : am_WH D B0 sp aC xs L w H) (hS : va_S (fun q => B0 ≤ q) s.heap H locs) (hl : am_LH (am_ad B0 sp) ls r.2.2.1 lv) (kk : am_Kk p l e R s m args below meth c cells slots Q D B0 sp aC xs L r.2.2.1 w t) : W p l e R s m args below meth c H locs cells slots Q (F0 m pc ls (st.map (am_cv (am_ad B0 sp)))) := by
  obtain ⟨hx0, hb, hml, hr, hlk, hown, hts, hfr, hlo, hin, hK, hX, hbB, hB, hbs⟩ := C
  obtain ⟨hd, hn, hca⟩ := am_chk_inv hc
  have hn : nx = pc + 1 := hn
  subst hn
  obtain ⟨x, y, r2, rfl, rfl, rfl⟩ := am_dv_inv hx
  exact lv_irem hx0 hb hd hq (kk H locs ls cells slots hW hS hl rfl rfl)
theorem am_o_ldiv {nx a b z : Nat} {v : Value} {o pc : Nat} {lv : AL} {st : List Value} {w : AWd} {q : Option Prop} {t : ASt} {ls : Array Slot} (C : am_Cx p R s m args meth c D aC B0 sp xs L r d) (h6 : 5 ≤ d) (hc : am_chk r.2.1 r.2.2.2.2.1 pc (.ldiv, nx, a, b, z, v) = true) (hx : ax (.ldiv, nx, a, b, z, v) o (pc, lv, st, w) = some (q, t)) (hq : am_h q) (hW : am_WH D B0 sp aC xs L w H) (hS : va_S (fun q => B0 ≤ q) s.heap H locs) (hl : am_LH (am_ad B0 sp) ls r.2.2.1 lv) (kk : am_Kk p l e R s m args below meth c cells slots Q D B0 sp aC xs L r.2.2.1 w t) : W p l e R s m args below meth c H locs cells slots Q (F0 m pc ls (st.map (am_cv (am_ad B0 sp)))) := by
  obtain ⟨hx0, hb, hml, hr, hlk, hown, hts, hfr, hlo, hin, hK, hX, hbB, hB, hbs⟩ := C
  obtain ⟨hd, hn, hca⟩ := am_chk_inv hc
  have hn : nx = pc + 1 := hn
  subst hn
  obtain ⟨x, y, r2, rfl, rfl, rfl⟩ := am_dvl_inv hx
  exact lv_ldiv hx0 hb hd hq (kk H locs ls cells slots hW hS hl rfl rfl)
theorem am_o_lrem {nx a b z : Nat} {v : Value} {o pc : Nat} {lv : AL} {st : List Value} {w : AWd} {q : Option Prop} {t : ASt} {ls : Array Slot} (C : am_Cx p R s m args meth c D aC B0 sp xs L r d) (h6 : 5 ≤ d) (hc : am_chk r.2.1 r.2.2.2.2.1 pc (.lrem, nx, a, b, z, v) = true) (hx : ax (.lrem, nx, a, b, z, v) o (pc, lv, st, w) = some (q, t)) (hq : am_h q) (hW : am_WH D B0 sp aC xs L w H) (hS : va_S (fun q => B0 ≤ q) s.heap H locs) (hl : am_LH (am_ad B0 sp) ls r.2.2.1 lv) (kk : am_Kk p l e R s m args below meth c cells slots Q D B0 sp aC xs L r.2.2.1 w t) : W p l e R s m args below meth c H locs cells slots Q (F0 m pc ls (st.map (am_cv (am_ad B0 sp)))) := by
  obtain ⟨hx0, hb, hml, hr, hlk, hown, hts, hfr, hlo, hin, hK, hX, hbB, hB, hbs⟩ := C
  obtain ⟨hd, hn, hca⟩ := am_chk_inv hc
  have hn : nx = pc + 1 := hn
  subst hn
  obtain ⟨x, y, r2, rfl, rfl, rfl⟩ := am_dvl_inv hx
  exact lv_lrem hx0 hb hd hq (kk H locs ls cells slots hW hS hl rfl rfl)
theorem am_o_ladd {nx a b z : Nat} {v : Value} {o pc : Nat} {lv : AL} {st : List Value} {w : AWd} {q : Option Prop} {t : ASt} {ls : Array Slot} (C : am_Cx p R s m args meth c D aC B0 sp xs L r d) (h6 : 5 ≤ d) (hc : am_chk r.2.1 r.2.2.2.2.1 pc (.ladd, nx, a, b, z, v) = true) (hx : ax (.ladd, nx, a, b, z, v) o (pc, lv, st, w) = some (q, t)) (hq : am_h q) (hW : am_WH D B0 sp aC xs L w H) (hS : va_S (fun q => B0 ≤ q) s.heap H locs) (hl : am_LH (am_ad B0 sp) ls r.2.2.1 lv) (kk : am_Kk p l e R s m args below meth c cells slots Q D B0 sp aC xs L r.2.2.1 w t) : W p l e R s m args below meth c H locs cells slots Q (F0 m pc ls (st.map (am_cv (am_ad B0 sp)))) := by
  obtain ⟨hx0, hb, hml, hr, hlk, hown, hts, hfr, hlo, hin, hK, hX, hbB, hB, hbs⟩ := C
  obtain ⟨hd, hn, hca⟩ := am_chk_inv hc
  have hn : nx = pc + 1 := hn
  subst hn
  obtain ⟨x, y, r2, rfl, rfl⟩ := am_ll_inv hx
  exact lv_ladd hx0 hb hd (kk H locs ls cells slots hW hS hl rfl rfl)
theorem am_o_lsub {nx a b z : Nat} {v : Value} {o pc : Nat} {lv : AL} {st : List Value} {w : AWd} {q : Option Prop} {t : ASt} {ls : Array Slot} (C : am_Cx p R s m args meth c D aC B0 sp xs L r d) (h6 : 5 ≤ d) (hc : am_chk r.2.1 r.2.2.2.2.1 pc (.lsub, nx, a, b, z, v) = true) (hx : ax (.lsub, nx, a, b, z, v) o (pc, lv, st, w) = some (q, t)) (hq : am_h q) (hW : am_WH D B0 sp aC xs L w H) (hS : va_S (fun q => B0 ≤ q) s.heap H locs) (hl : am_LH (am_ad B0 sp) ls r.2.2.1 lv) (kk : am_Kk p l e R s m args below meth c cells slots Q D B0 sp aC xs L r.2.2.1 w t) : W p l e R s m args below meth c H locs cells slots Q (F0 m pc ls (st.map (am_cv (am_ad B0 sp)))) := by
  obtain ⟨hx0, hb, hml, hr, hlk, hown, hts, hfr, hlo, hin, hK, hX, hbB, hB, hbs⟩ := C
  obtain ⟨hd, hn, hca⟩ := am_chk_inv hc
  have hn : nx = pc + 1 := hn
  subst hn
  obtain ⟨x, y, r2, rfl, rfl⟩ := am_ll_inv hx
  exact lv_lsub hx0 hb hd (kk H locs ls cells slots hW hS hl rfl rfl)
theorem am_o_lmul {nx a b z : Nat} {v : Value} {o pc : Nat} {lv : AL} {st : List Value} {w : AWd} {q : Option Prop} {t : ASt} {ls : Array Slot} (C : am_Cx p R s m args meth c D aC B0 sp xs L r d) (h6 : 5 ≤ d) (hc : am_chk r.2.1 r.2.2.2.2.1 pc (.lmul, nx, a, b, z, v) = true) (hx : ax (.lmul, nx, a, b, z, v) o (pc, lv, st, w) = some (q, t)) (hq : am_h q) (hW : am_WH D B0 sp aC xs L w H) (hS : va_S (fun q => B0 ≤ q) s.heap H locs) (hl : am_LH (am_ad B0 sp) ls r.2.2.1 lv) (kk : am_Kk p l e R s m args below meth c cells slots Q D B0 sp aC xs L r.2.2.1 w t) : W p l e R s m args below meth c H locs cells slots Q (F0 m pc ls (st.map (am_cv (am_ad B0 sp)))) := by
  obtain ⟨hx0, hb, hml, hr, hlk, hown, hts, hfr, hlo, hin, hK, hX, hbB, hB, hbs⟩ := C
  obtain ⟨hd, hn, hca⟩ := am_chk_inv hc
  have hn : nx = pc + 1 := hn
  subst hn
  obtain ⟨x, y, r2, rfl, rfl⟩ := am_ll_inv hx
  exact lv_lmul hx0 hb hd (kk H locs ls cells slots hW hS hl rfl rfl)
theorem am_o_land {nx a b z : Nat} {v : Value} {o pc : Nat} {lv : AL} {st : List Value} {w : AWd} {q : Option Prop} {t : ASt} {ls : Array Slot} (C : am_Cx p R s m args meth c D aC B0 sp xs L r d) (h6 : 5 ≤ d) (hc : am_chk r.2.1 r.2.2.2.2.1 pc (.land, nx, a, b, z, v) = true) (hx : ax (.land, nx, a, b, z, v) o (pc, lv, st, w) = some (q, t)) (hq : am_h q) (hW : am_WH D B0 sp aC xs L w H) (hS : va_S (fun q => B0 ≤ q) s.heap H locs) (hl : am_LH (am_ad B0 sp) ls r.2.2.1 lv) (kk : am_Kk p l e R s m args below meth c cells slots Q D B0 sp aC xs L r.2.2.1 w t) : W p l e R s m args below meth c H locs cells slots Q (F0 m pc ls (st.map (am_cv (am_ad B0 sp)))) := by
  obtain ⟨hx0, hb, hml, hr, hlk, hown, hts, hfr, hlo, hin, hK, hX, hbB, hB, hbs⟩ := C
  obtain ⟨hd, hn, hca⟩ := am_chk_inv hc
  have hn : nx = pc + 1 := hn
  subst hn
  obtain ⟨x, y, r2, rfl, rfl⟩ := am_ll_inv hx
  exact lv_land hx0 hb hd (kk H locs ls cells slots hW hS hl rfl rfl)
theorem am_o_lor {nx a b z : Nat} {v : Value} {o pc : Nat} {lv : AL} {st : List Value} {w : AWd} {q : Option Prop} {t : ASt} {ls : Array Slot} (C : am_Cx p R s m args meth c D aC B0 sp xs L r d) (h6 : 5 ≤ d) (hc : am_chk r.2.1 r.2.2.2.2.1 pc (.lor, nx, a, b, z, v) = true) (hx : ax (.lor, nx, a, b, z, v) o (pc, lv, st, w) = some (q, t)) (hq : am_h q) (hW : am_WH D B0 sp aC xs L w H) (hS : va_S (fun q => B0 ≤ q) s.heap H locs) (hl : am_LH (am_ad B0 sp) ls r.2.2.1 lv) (kk : am_Kk p l e R s m args below meth c cells slots Q D B0 sp aC xs L r.2.2.1 w t) : W p l e R s m args below meth c H locs cells slots Q (F0 m pc ls (st.map (am_cv (am_ad B0 sp)))) := by
  obtain ⟨hx0, hb, hml, hr, hlk, hown, hts, hfr, hlo, hin, hK, hX, hbB, hB, hbs⟩ := C
  obtain ⟨hd, hn, hca⟩ := am_chk_inv hc
  have hn : nx = pc + 1 := hn
  subst hn
  obtain ⟨x, y, r2, rfl, rfl⟩ := am_ll_inv hx
  exact lv_lor hx0 hb hd (kk H locs ls cells slots hW hS hl rfl rfl)
theorem am_o_ineg {nx a b z : Nat} {v : Value} {o pc : Nat} {lv : AL} {st : List Value} {w : AWd} {q : Option Prop} {t : ASt} {ls : Array Slot} (C : am_Cx p R s m args meth c D aC B0 sp xs L r d) (h6 : 5 ≤ d) (hc : am_chk r.2.1 r.2.2.2.2.1 pc (.ineg, nx, a, b, z, v) = true) (hx : ax (.ineg, nx, a, b, z, v) o (pc, lv, st, w) = some (q, t)) (hq : am_h q) (hW : am_WH D B0 sp aC xs L w H) (hS : va_S (fun q => B0 ≤ q) s.heap H locs) (hl : am_LH (am_ad B0 sp) ls r.2.2.1 lv) (kk : am_Kk p l e R s m args below meth c cells slots Q D B0 sp aC xs L r.2.2.1 w t) : W p l e R s m args below meth c H locs cells slots Q (F0 m pc ls (st.map (am_cv (am_ad B0 sp)))) := by
  obtain ⟨hx0, hb, hml, hr, hlk, hown, hts, hfr, hlo, hin, hK, hX, hbB, hB, hbs⟩ := C
  obtain ⟨hd, hn, hca⟩ := am_chk_inv hc
  have hn : nx = pc + 1 := hn
  subst hn
  obtain ⟨x, r2, rfl, rfl⟩ := am_i1_inv hx
  exact lv_ineg hx0 hb hd (kk H locs ls cells slots hW hS hl rfl rfl)
theorem am_o_i2l {nx a b z : Nat} {v : Value} {o pc : Nat} {lv : AL} {st : List Value} {w : AWd} {q : Option Prop} {t : ASt} {ls : Array Slot} (C : am_Cx p R s m args meth c D aC B0 sp xs L r d) (h6 : 5 ≤ d) (hc : am_chk r.2.1 r.2.2.2.2.1 pc (.i2l, nx, a, b, z, v) = true) (hx : ax (.i2l, nx, a, b, z, v) o (pc, lv, st, w) = some (q, t)) (hq : am_h q) (hW : am_WH D B0 sp aC xs L w H) (hS : va_S (fun q => B0 ≤ q) s.heap H locs) (hl : am_LH (am_ad B0 sp) ls r.2.2.1 lv) (kk : am_Kk p l e R s m args below meth c cells slots Q D B0 sp aC xs L r.2.2.1 w t) : W p l e R s m args below meth c H locs cells slots Q (F0 m pc ls (st.map (am_cv (am_ad B0 sp)))) := by
  obtain ⟨hx0, hb, hml, hr, hlk, hown, hts, hfr, hlo, hin, hK, hX, hbB, hB, hbs⟩ := C
  obtain ⟨hd, hn, hca⟩ := am_chk_inv hc
  have hn : nx = pc + 1 := hn
  subst hn
  obtain ⟨x, r2, rfl, rfl⟩ := am_i1_inv hx
  exact lv_i2l hx0 hb hd rfl (kk H locs ls cells slots hW hS hl rfl rfl)
theorem am_o_i2b {nx a b z : Nat} {v : Value} {o pc : Nat} {lv : AL} {st : List Value} {w : AWd} {q : Option Prop} {t : ASt} {ls : Array Slot} (C : am_Cx p R s m args meth c D aC B0 sp xs L r d) (h6 : 5 ≤ d) (hc : am_chk r.2.1 r.2.2.2.2.1 pc (.i2b, nx, a, b, z, v) = true) (hx : ax (.i2b, nx, a, b, z, v) o (pc, lv, st, w) = some (q, t)) (hq : am_h q) (hW : am_WH D B0 sp aC xs L w H) (hS : va_S (fun q => B0 ≤ q) s.heap H locs) (hl : am_LH (am_ad B0 sp) ls r.2.2.1 lv) (kk : am_Kk p l e R s m args below meth c cells slots Q D B0 sp aC xs L r.2.2.1 w t) : W p l e R s m args below meth c H locs cells slots Q (F0 m pc ls (st.map (am_cv (am_ad B0 sp)))) := by
  obtain ⟨hx0, hb, hml, hr, hlk, hown, hts, hfr, hlo, hin, hK, hX, hbB, hB, hbs⟩ := C
  obtain ⟨hd, hn, hca⟩ := am_chk_inv hc
  have hn : nx = pc + 1 := hn
  subst hn
  obtain ⟨x, r2, rfl, rfl⟩ := am_i1_inv hx
  exact lv_i2b hx0 hb hd rfl (kk H locs ls cells slots hW hS hl rfl rfl)
theorem am_o_i2s {nx a b z : Nat} {v : Value} {o pc : Nat} {lv : AL} {st : List Value} {w : AWd} {q : Option Prop} {t : ASt} {ls : Array Slot} (C : am_Cx p R s m args meth c D aC B0 sp xs L r d) (h6 : 5 ≤ d) (hc : am_chk r.2.1 r.2.2.2.2.1 pc (.i2s, nx, a, b, z, v) = true) (hx : ax (.i2s, nx, a, b, z, v) o (pc, lv, st, w) = some (q, t)) (hq : am_h q) (hW : am_WH D B0 sp aC xs L w H) (hS : va_S (fun q => B0 ≤ q) s.heap H locs) (hl : am_LH (am_ad B0 sp) ls r.2.2.1 lv) (kk : am_Kk p l e R s m args below meth c cells slots Q D B0 sp aC xs L r.2.2.1 w t) : W p l e R s m args below meth c H locs cells slots Q (F0 m pc ls (st.map (am_cv (am_ad B0 sp)))) := by
  obtain ⟨hx0, hb, hml, hr, hlk, hown, hts, hfr, hlo, hin, hK, hX, hbB, hB, hbs⟩ := C
  obtain ⟨hd, hn, hca⟩ := am_chk_inv hc
  have hn : nx = pc + 1 := hn
  subst hn
  obtain ⟨x, r2, rfl, rfl⟩ := am_i1_inv hx
  exact lv_i2s hx0 hb hd rfl (kk H locs ls cells slots hW hS hl rfl rfl)
theorem am_o_l2i {nx a b z : Nat} {v : Value} {o pc : Nat} {lv : AL} {st : List Value} {w : AWd} {q : Option Prop} {t : ASt} {ls : Array Slot} (C : am_Cx p R s m args meth c D aC B0 sp xs L r d) (h6 : 5 ≤ d) (hc : am_chk r.2.1 r.2.2.2.2.1 pc (.l2i, nx, a, b, z, v) = true) (hx : ax (.l2i, nx, a, b, z, v) o (pc, lv, st, w) = some (q, t)) (hq : am_h q) (hW : am_WH D B0 sp aC xs L w H) (hS : va_S (fun q => B0 ≤ q) s.heap H locs) (hl : am_LH (am_ad B0 sp) ls r.2.2.1 lv) (kk : am_Kk p l e R s m args below meth c cells slots Q D B0 sp aC xs L r.2.2.1 w t) : W p l e R s m args below meth c H locs cells slots Q (F0 m pc ls (st.map (am_cv (am_ad B0 sp)))) := by
  obtain ⟨hx0, hb, hml, hr, hlk, hown, hts, hfr, hlo, hin, hK, hX, hbB, hB, hbs⟩ := C
  obtain ⟨hd, hn, hca⟩ := am_chk_inv hc
  have hn : nx = pc + 1 := hn
  subst hn
  obtain ⟨x, r2, rfl, rfl⟩ := am_l1_inv hx
  exact lv_l2i hx0 hb hd rfl (kk H locs ls cells slots hW hS hl rfl rfl)
theorem am_o_lneg {nx a b z : Nat} {v : Value} {o pc : Nat} {lv : AL} {st : List Value} {w : AWd} {q : Option Prop} {t : ASt} {ls : Array Slot} (C : am_Cx p R s m args meth c D aC B0 sp xs L r d) (h6 : 5 ≤ d) (hc : am_chk r.2.1 r.2.2.2.2.1 pc (.lneg, nx, a, b, z, v) = true) (hx : ax (.lneg, nx, a, b, z, v) o (pc, lv, st, w) = some (q, t)) (hq : am_h q) (hW : am_WH D B0 sp aC xs L w H) (hS : va_S (fun q => B0 ≤ q) s.heap H locs) (hl : am_LH (am_ad B0 sp) ls r.2.2.1 lv) (kk : am_Kk p l e R s m args below meth c cells slots Q D B0 sp aC xs L r.2.2.1 w t) : W p l e R s m args below meth c H locs cells slots Q (F0 m pc ls (st.map (am_cv (am_ad B0 sp)))) := by
  obtain ⟨hx0, hb, hml, hr, hlk, hown, hts, hfr, hlo, hin, hK, hX, hbB, hB, hbs⟩ := C
  obtain ⟨hd, hn, hca⟩ := am_chk_inv hc
  have hn : nx = pc + 1 := hn
  subst hn
  obtain ⟨x, r2, rfl, rfl⟩ := am_l1_inv hx
  exact lv_lneg hx0 hb hd (kk H locs ls cells slots hW hS hl rfl rfl)
theorem am_o_lshl {nx a b z : Nat} {v : Value} {o pc : Nat} {lv : AL} {st : List Value} {w : AWd} {q : Option Prop} {t : ASt} {ls : Array Slot} (C : am_Cx p R s m args meth c D aC B0 sp xs L r d) (h6 : 5 ≤ d) (hc : am_chk r.2.1 r.2.2.2.2.1 pc (.lshl, nx, a, b, z, v) = true) (hx : ax (.lshl, nx, a, b, z, v) o (pc, lv, st, w) = some (q, t)) (hq : am_h q) (hW : am_WH D B0 sp aC xs L w H) (hS : va_S (fun q => B0 ≤ q) s.heap H locs) (hl : am_LH (am_ad B0 sp) ls r.2.2.1 lv) (kk : am_Kk p l e R s m args below meth c cells slots Q D B0 sp aC xs L r.2.2.1 w t) : W p l e R s m args below meth c H locs cells slots Q (F0 m pc ls (st.map (am_cv (am_ad B0 sp)))) := by
  obtain ⟨hx0, hb, hml, hr, hlk, hown, hts, hfr, hlo, hin, hK, hX, hbB, hB, hbs⟩ := C
  obtain ⟨hd, hn, hca⟩ := am_chk_inv hc
  have hn : nx = pc + 1 := hn
  subst hn
  match st, hx with
  | .int y :: .long x :: r2, hx =>
    cases hx
    exact lv_lshl hx0 hb hd rfl (kk H locs ls cells slots hW hS hl rfl rfl)
theorem am_o_lcmp {nx a b z : Nat} {v : Value} {o pc : Nat} {lv : AL} {st : List Value} {w : AWd} {q : Option Prop} {t : ASt} {ls : Array Slot} (C : am_Cx p R s m args meth c D aC B0 sp xs L r d) (h6 : 5 ≤ d) (hc : am_chk r.2.1 r.2.2.2.2.1 pc (.lcmp, nx, a, b, z, v) = true) (hx : ax (.lcmp, nx, a, b, z, v) o (pc, lv, st, w) = some (q, t)) (hq : am_h q) (hW : am_WH D B0 sp aC xs L w H) (hS : va_S (fun q => B0 ≤ q) s.heap H locs) (hl : am_LH (am_ad B0 sp) ls r.2.2.1 lv) (kk : am_Kk p l e R s m args below meth c cells slots Q D B0 sp aC xs L r.2.2.1 w t) : W p l e R s m args below meth c H locs cells slots Q (F0 m pc ls (st.map (am_cv (am_ad B0 sp)))) := by
  obtain ⟨hx0, hb, hml, hr, hlk, hown, hts, hfr, hlo, hin, hK, hX, hbB, hB, hbs⟩ := C
  obtain ⟨hd, hn, hca⟩ := am_chk_inv hc
  have hn : nx = pc + 1 := hn
  subst hn
  match st, hx with
  | .long y :: .long x :: r2, hx =>
    cases hx
    exact W.lcmp hx0 hb hd (kk H locs ls cells slots hW hS hl rfl rfl)
theorem am_o_goto {off : Int} {nx a b z : Nat} {v : Value} {o pc : Nat} {lv : AL} {st : List Value} {w : AWd} {q : Option Prop} {t : ASt} {ls : Array Slot} (C : am_Cx p R s m args meth c D aC B0 sp xs L r d) (h6 : 5 ≤ d) (hc : am_chk r.2.1 r.2.2.2.2.1 pc (.goto off, nx, a, b, z, v) = true) (hx : ax (.goto off, nx, a, b, z, v) o (pc, lv, st, w) = some (q, t)) (hq : am_h q) (hW : am_WH D B0 sp aC xs L w H) (hS : va_S (fun q => B0 ≤ q) s.heap H locs) (hl : am_LH (am_ad B0 sp) ls r.2.2.1 lv) (kk : am_Kk p l e R s m args below meth c cells slots Q D B0 sp aC xs L r.2.2.1 w t) : W p l e R s m args below meth c H locs cells slots Q (F0 m pc ls (st.map (am_cv (am_ad B0 sp)))) := by
  obtain ⟨hx0, hb, hml, hr, hlk, hown, hts, hfr, hlo, hin, hK, hX, hbB, hB, hbs⟩ := C
  obtain ⟨hd, hn, hca⟩ := am_chk_inv hc
  have hn : nx = pc + 3 := hn
  subst hn
  have ht : (pc : Int) + off = a := of_decide_eq_true hca
  cases hx
  exact lv_goto hx0 hb hd ht (kk H locs ls cells slots hW hS hl rfl rfl)
theorem am_o_ifCond {k : ClassFile.Cond} {off : Int} {nx a b z : Nat} {v : Value} {o pc : Nat} {lv : AL} {st : List Value} {w : AWd} {q : Option Prop} {t : ASt} {ls : Array Slot} (C : am_Cx p R s m args meth c D aC B0 sp xs L r d) (h6 : 5 ≤ d) (hc : am_chk r.2.1 r.2.2.2.2.1 pc (.ifCond k off, nx, a, b, z, v) = true) (hx : ax (.ifCond k off, nx, a, b, z, v) o (pc, lv, st, w) = some (q, t)) (hq : am_h q) (hW : am_WH D B0 sp aC xs L w H) (hS : va_S (fun q => B0 ≤ q) s.heap H locs) (hl : am_LH (am_ad B0 sp) ls r.2.2.1 lv) (kk : am_Kk p l e R s m args below meth c cells slots Q D B0 sp aC xs L r.2.2.1 w t) : W p l e R s m args below meth c H locs cells slots Q (F0 m pc ls (st.map (am_cv (am_ad B0 sp)))) := by
  obtain ⟨hx0, hb, hml, hr, hlk, hown, hts, hfr, hlo, hin, hK, hX, hbB, hB, hbs⟩ := C
  obtain ⟨hd, hn, hca⟩ := am_chk_inv hc
  have hn : nx = pc + 3 := hn
  subst hn
  have ht : (pc : Int) + off = a := of_decide_eq_true hca
  match st, hx with
  | .int x :: r2, hx =>
    cases o with
    | zero =>
      cases hx
      cases k with
      | eq => exact lv_if_eq hx0 hb hd ht (fun h => absurd h hq) (fun _ => kk H locs ls cells slots hW hS hl rfl rfl)
      | ne => exact lv_if_ne hx0 hb hd ht (fun h => absurd hq h) (fun _ => kk H locs ls cells slots hW hS hl rfl rfl)
      | lt => exact lv_if_lt hx0 hb hd ht (fun h => absurd h hq) (fun _ => kk H locs ls cells slots hW hS hl rfl rfl)
      | ge => exact lv_if_ge hx0 hb hd ht (fun h => absurd h hq) (fun _ => kk H locs ls cells slots hW hS hl rfl rfl)
      | gt => exact lv_if_gt hx0 hb hd ht (fun h => absurd h hq) (fun _ => kk H locs ls cells slots hW hS hl rfl rfl)
      | le => exact lv_if_le hx0 hb hd ht (fun h => absurd h hq) (fun _ => kk H locs ls cells slots hW hS hl rfl rfl)
    | succ o =>
      cases hx
      cases k with
      | eq => exact lv_if_eq hx0 hb hd ht (fun _ => kk H locs ls cells slots hW hS hl rfl rfl) (fun h => absurd hq h)
      | ne => exact lv_if_ne hx0 hb hd ht (fun _ => kk H locs ls cells slots hW hS hl rfl rfl) (fun h => absurd h hq)
      | lt => exact lv_if_lt hx0 hb hd ht (fun _ => kk H locs ls cells slots hW hS hl rfl rfl) (fun h => absurd hq h)
      | ge => exact lv_if_ge hx0 hb hd ht (fun _ => kk H locs ls cells slots hW hS hl rfl rfl) (fun h => absurd hq h)
      | gt => exact lv_if_gt hx0 hb hd ht (fun _ => kk H locs ls cells slots hW hS hl rfl rfl) (fun h => absurd hq h)
      | le => exact lv_if_le hx0 hb hd ht (fun _ => kk H locs ls cells slots hW hS hl rfl rfl) (fun h => absurd hq h)
theorem am_o_if_icmp {k : ClassFile.Cond} {off : Int} {nx a b z : Nat} {v : Value} {o pc : Nat} {lv : AL} {st : List Value} {w : AWd} {q : Option Prop} {t : ASt} {ls : Array Slot} (C : am_Cx p R s m args meth c D aC B0 sp xs L r d) (h6 : 5 ≤ d) (hc : am_chk r.2.1 r.2.2.2.2.1 pc (.if_icmp k off, nx, a, b, z, v) = true) (hx : ax (.if_icmp k off, nx, a, b, z, v) o (pc, lv, st, w) = some (q, t)) (hq : am_h q) (hW : am_WH D B0 sp aC xs L w H) (hS : va_S (fun q => B0 ≤ q) s.heap H locs) (hl : am_LH (am_ad B0 sp) ls r.2.2.1 lv) (kk : am_Kk p l e R s m args below meth c cells slots Q D B0 sp aC xs L r.2.2.1 w t) : W p l e R s m args below meth c H locs cells slots Q (F0 m pc ls (st.map (am_cv (am_ad B0 sp)))) := by
  obtain ⟨hx0, hb, hml, hr, hlk, hown, hts, hfr, hlo, hin, hK, hX, hbB, hB, hbs⟩ := C
  obtain ⟨hd, hn, hca⟩ := am_chk_inv hc
  have hn : nx = pc + 3 := hn
  subst hn
  have ht : (pc : Int) + off = a := of_decide_eq_true hca
  match st, hx with
  | .int y :: .int x :: r2, hx =>
    cases o with
    | zero =>
      cases hx
      cases k with
      | eq => exact lv_icmp_eq hx0 hb hd ht (fun h => absurd h hq) (fun _ => kk H locs ls cells slots hW hS hl rfl rfl)
      | ne => exact lv_icmp_ne hx0 hb hd ht (fun h => absurd hq h) (fun _ => kk H locs ls cells slots hW hS hl rfl rfl)
      | lt => exact lv_icmp_lt hx0 hb hd ht (fun h => absurd h hq) (fun _ => kk H locs ls cells slots hW hS hl rfl rfl)
      | ge => exact lv_icmp_ge hx0 hb hd ht (fun h => absurd h hq) (fun _ => kk H locs ls cells slots hW hS hl rfl rfl)
      | gt => exact lv_icmp_gt hx0 hb hd ht (fun h => absurd h hq) (fun _ => kk H locs ls cells slots hW hS hl rfl rfl)
      | le => exact lv_icmp_le hx0 hb hd ht (fun h => absurd h hq) (fun _ => kk H locs ls cells slots hW hS hl rfl rfl)
    | succ o =>
      cases hx
      cases k with
      | eq => exact lv_icmp_eq hx0 hb hd ht (fun _ => kk H locs ls cells slots hW hS hl rfl rfl) (fun h => absurd hq h)
      | ne => exact lv_icmp_ne hx0 hb hd ht (fun _ => kk H locs ls cells slots hW hS hl rfl rfl) (fun h => absurd h hq)
      | lt => exact lv_icmp_lt hx0 hb hd ht (fun _ => kk H locs ls cells slots hW hS hl rfl rfl) (fun h => absurd hq h)
      | ge => exact lv_icmp_ge hx0 hb hd ht (fun _ => kk H locs ls cells slots hW hS hl rfl rfl) (fun h => absurd hq h)
      | gt => exact lv_icmp_gt hx0 hb hd ht (fun _ => kk H locs ls cells slots hW hS hl rfl rfl) (fun h => absurd hq h)
      | le => exact lv_icmp_le hx0 hb hd ht (fun _ => kk H locs ls cells slots hW hS hl rfl rfl) (fun h => absurd hq h)
theorem am_o_tableswitch {df lo hi : Int} {offs : Array Int} {nx a b z : Nat} {v : Value} {o pc : Nat} {lv : AL} {st : List Value} {w : AWd} {q : Option Prop} {t : ASt} {ls : Array Slot} (C : am_Cx p R s m args meth c D aC B0 sp xs L r d) (h6 : 5 ≤ d) (hc : am_chk r.2.1 r.2.2.2.2.1 pc (.tableswitch df lo hi offs, nx, a, b, z, v) = true) (hx : ax (.tableswitch df lo hi offs, nx, a, b, z, v) o (pc, lv, st, w) = some (q, t)) (hq : am_h q) (hW : am_WH D B0 sp aC xs L w H) (hS : va_S (fun q => B0 ≤ q) s.heap H locs) (hl : am_LH (am_ad B0 sp) ls r.2.2.1 lv) (kk : am_Kk p l e R s m args below meth c cells slots Q D B0 sp aC xs L r.2.2.1 w t) : W p l e R s m args below meth c H locs cells slots Q (F0 m pc ls (st.map (am_cv (am_ad B0 sp)))) := by
  obtain ⟨hx0, hb, hml, hr, hlk, hown, hts, hfr, hlo, hin, hK, hX, hbB, hB, hbs⟩ := C
  obtain ⟨hd, hn, hca⟩ := am_chk_inv hc
  match st, hx with
  | .int x :: r2, hx =>
    cases o with
    | zero =>
      obtain ⟨k, hk, rfl, rfl⟩ := am_to_inv hx
      exact lv_tableOut hx0 hb hd hq hk (kk H locs ls cells slots hW hS hl rfl rfl)
    | succ j =>
      have hx : (match offs[j]? with | some zz => am_to (pc + zz) (¬ x.toInt < lo ∧ ¬ hi < x.toInt ∧ x.toInt = lo + j) lv r2 w | none => none) = some (q, t) := hx
      cases ho : offs[j]? with
      | none => rw [ho] at hx; cases hx
      | some zz =>
        rw [ho] at hx
        obtain ⟨k, hk, rfl, rfl⟩ := am_to_inv hx
        obtain ⟨h1, h2, h3⟩ := hq
        exact lv_tableIn hx0 hb hd h1 h2 (off := zz) (by rw [h3, show (lo + (j : Int) - lo).toNat = j by omega]; exact ho) hk (kk H locs ls cells slots hW hS hl rfl rfl)
theorem am_o_lookupswitch {df : Int} {ps : Array (Int × Int)} {nx a b z : Nat} {v : Value} {o pc : Nat} {lv : AL} {st : List Value} {w : AWd} {q : Option Prop} {t : ASt} {ls : Array Slot} (C : am_Cx p R s m args meth c D aC B0 sp xs L r d) (h6 : 5 ≤ d) (hc : am_chk r.2.1 r.2.2.2.2.1 pc (.lookupswitch df ps, nx, a, b, z, v) = true) (hx : ax (.lookupswitch df ps, nx, a, b, z, v) o (pc, lv, st, w) = some (q, t)) (hq : am_h q) (hW : am_WH D B0 sp aC xs L w H) (hS : va_S (fun q => B0 ≤ q) s.heap H locs) (hl : am_LH (am_ad B0 sp) ls r.2.2.1 lv) (kk : am_Kk p l e R s m args below meth c cells slots Q D B0 sp aC xs L r.2.2.1 w t) : W p l e R s m args below meth c H locs cells slots Q (F0 m pc ls (st.map (am_cv (am_ad B0 sp)))) := by
  obtain ⟨hx0, hb, hml, hr, hlk, hown, hts, hfr, hlo, hin, hK, hX, hbB, hB, hbs⟩ := C
  obtain ⟨hd, hn, hca⟩ := am_chk_inv hc
  match st, hx with
  | .int x :: r2, hx =>
    obtain ⟨k, hk, rfl, rfl⟩ := am_to_inv hx
    exact lv_lookup hx0 hb hd hq.1 hq.2 hk (kk H locs ls cells slots hW hS hl rfl rfl)
theorem am_o_dup {nx a b z : Nat} {v : Value} {o pc : Nat} {lv : AL} {st : List Value} {w : AWd} {q : Option Prop} {t : ASt} {ls : Array Slot} (C : am_Cx p R s m args meth c D aC B0 sp xs L r d) (h6 : 5 ≤ d) (hc : am_chk r.2.1 r.2.2.2.2.1 pc (.dup, nx, a, b, z, v) = true) (hx : ax (.dup, nx, a, b, z, v) o (pc, lv, st, w) = some (q, t)) (hq : am_h q) (hW : am_WH D B0 sp aC xs L w H) (hS : va_S (fun q => B0 ≤ q) s.heap H locs) (hl : am_LH (am_ad B0 sp) ls r.2.2.1 lv) (kk : am_Kk p l e R s m args below meth c cells slots Q D B0 sp aC xs L r.2.2.1 w t) : W p l e R s m args below meth c H locs cells slots Q (F0 m pc ls (st.map (am_cv (am_ad B0 sp)))) := by
  obtain ⟨hx0, hb, hml, hr, hlk, hown, hts, hfr, hlo, hin, hK, hX, hbB, hB, hbs⟩ := C
  obtain ⟨hd, hn, hca⟩ := am_chk_inv hc
  have hn : nx = pc + 1 := hn
  subst hn
  match st, hx with
  | .int x :: r2, hx =>
    cases hx
    exact lv_dup hx0 hb hd rfl (kk H locs ls cells slots hW hS hl rfl rfl)
  | .ref x :: r2, hx =>
    cases hx
    exact lv_dup hx0 hb hd rfl (kk H locs ls cells slots hW hS hl rfl rfl)
theorem am_o_dup2 {nx a b z : Nat} {v : Value} {o pc : Nat} {lv : AL} {st : List Value} {w : AWd} {q : Option Prop} {t : ASt} {ls : Array Slot} (C : am_Cx p R s m args meth c D aC B0 sp xs L r d) (h6 : 5 ≤ d) (hc : am_chk r.2.1 r.2.2.2.2.1 pc (.dup2, nx, a, b, z, v) = true) (hx : ax (.dup2, nx, a, b, z, v) o (pc, lv, st, w) = some (q, t)) (hq : am_h q) (hW : am_WH D B0 sp aC xs L w H) (hS : va_S (fun q => B0 ≤ q) s.heap H locs) (hl : am_LH (am_ad B0 sp) ls r.2.2.1 lv) (kk : am_Kk p l e R s m args below meth c cells slots Q D B0 sp aC xs L r.2.2.1 w t) : W p l e R s m args below meth c H locs cells slots Q (F0 m pc ls (st.map (am_cv (am_ad B0 sp)))) := by
  obtain ⟨hx0, hb, hml, hr, hlk, hown, hts, hfr, hlo, hin, hK, hX, hbB, hB, hbs⟩ := C
  obtain ⟨hd, hn, hca⟩ := am_chk_inv hc
  have hn : nx = pc + 1 := hn
  subst hn
  match st, hx with
  | .int x :: .ref y :: r2, hx =>
    cases hx
    exact lv_dup2_11 hx0 hb hd rfl rfl (kk H locs ls cells slots hW hS hl rfl rfl)
theorem am_o_pop {nx a b z : Nat} {v : Value} {o pc : Nat} {lv : AL} {st : List Value} {w : AWd} {q : Option Prop} {t : ASt} {ls : Array Slot} (C : am_Cx p R s m args meth c D aC B0 sp xs L r d) (h6 : 5 ≤ d) (hc : am_chk r.2.1 r.2.2.2.2.1 pc (.pop, nx, a, b, z, v) = true) (hx : ax (.pop, nx, a, b, z, v) o (pc, lv, st, w) = some (q, t)) (hq : am_h q) (hW : am_WH D B0 sp aC xs L w H) (hS : va_S (fun q => B0 ≤ q) s.heap H locs) (hl : am_LH (am_ad B0 sp) ls r.2.2.1 lv) (kk : am_Kk p l e R s m args below meth c cells slots Q D B0 sp aC xs L r.2.2.1 w t) : W p l e R s m args below meth c H locs cells slots Q (F0 m pc ls (st.map (am_cv (am_ad B0 sp)))) := by
  obtain ⟨hx0, hb, hml, hr, hlk, hown, hts, hfr, hlo, hin, hK, hX, hbB, hB, hbs⟩ := C
  obtain ⟨hd, hn, hca⟩ := am_chk_inv hc
  have hn : nx = pc + 1 := hn
  subst hn
  match st, hx with
  | .int x :: r2, hx =>
    cases hx
    exact lv_pop hx0 hb hd rfl (kk H locs ls cells slots hW hS hl rfl rfl)
end AMO
