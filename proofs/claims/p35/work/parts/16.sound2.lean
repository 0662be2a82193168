/-! a step, a call, the run: sound -/
section AMS
variable {p : Program} {l : Launch} {e : Env} {R : Room} {s : State} {m : MethodId} {args : Array Value} {below : List Frame} {meth : Method} {c : Code} {H : Heap} {locs : List Loc} {cells slots : Nat} {Q : State → Prop}
variable {D : va_G} {B0 : Nat} {sp : Nat → Nat} {aC : Nat → ClassId} {xs : Nat → Int32} {L : Nat} {r : AR} {d : Nat}
theorem am_step {E : AE} {o pc i : Nat} {lv : AL} {st : List Value} {w : AWd} {q : Option Prop} {t : ASt} {ls : Array Slot} (hSV : am_SV l B0 sp) (hG : am_Gs B0 sp s s.heap) (hr : am_all[i]? = some r) (he : r.2.2.2.2.2.2.2 pc = some E) (hrc : cells + t.2.2.2.1.1 ≤ R.cells + w.1.1) (hrs : slots + t.2.2.2.1.2.1 ≤ R.slots + w.1.2.1) (hrc0 : cells ≤ R.cells) (hrs0 : slots ≤ R.slots)
    (C : am_Cx p R s m args meth c D aC B0 sp xs L r d) (h5 : am_lo i ≤ d) (hx : ax E o (pc, lv, st, w) = some (q, t)) (hq : am_h q) (hW : am_WH D B0 sp aC xs L w H) (hS : va_S (fun q => B0 ≤ q) s.heap H locs) (hl : am_LH (am_ad B0 sp) ls r.2.2.1 lv) (kk : am_Kk p l e R s m args below meth c cells slots Q D B0 sp aC xs L r.2.2.1 w t) : W p l e R s m args below meth c H locs cells slots Q (F0 m pc ls (st.map (am_cv (am_ad B0 sp)))) := by
  have hc := am_rok_at hr pc _ he
  have h6 : 5 ≤ d := Nat.le_trans (am_lo_5 i) h5
  obtain ⟨ins, nx, a, b, z, v⟩ := E
  cases ins with
  | iconst n => exact am_o_iconst C h6 hc hx hq hW hS hl kk
  | bipush n => exact am_o_bipush C h6 hc hx hq hW hS hl kk
  | sipush n => exact am_o_sipush C h6 hc hx hq hW hS hl kk
  | lconst n => exact am_o_lconst C h6 hc hx hq hW hS hl kk
  | ldc i => exact am_o_ldc C h6 hc hx hq hW hS hl kk
  | ldc_w i => exact am_o_ldc_w C h6 hc hx hq hW hS hl kk
  | ldc2_w i => exact am_o_ldc2_w C h6 hc hx hq hW hS hl kk
  | iload_n k => exact am_o_iload_n C h6 hc hx hq hW hS hl kk
  | iload k => exact am_o_iload C h6 hc hx hq hW hS hl kk
  | lload_n k => exact am_o_lload_n C h6 hc hx hq hW hS hl kk
  | lload k => exact am_o_lload C h6 hc hx hq hW hS hl kk
  | aload_n k => exact am_o_aload_n C h6 hc hx hq hW hS hl kk
  | istore_n k => exact am_o_istore_n C h6 hc hx hq hW hS hl kk
  | istore k => exact am_o_istore C h6 hc hx hq hW hS hl kk
  | lstore_n k => exact am_o_lstore_n C h6 hc hx hq hW hS hl kk
  | lstore k => exact am_o_lstore C h6 hc hx hq hW hS hl kk
  | astore_n k => exact am_o_astore_n C h6 hc hx hq hW hS hl kk
  | iinc k n => exact am_o_iinc C h6 hc hx hq hW hS hl kk
  | iadd  => exact am_o_iadd C h6 hc hx hq hW hS hl kk
  | isub  => exact am_o_isub C h6 hc hx hq hW hS hl kk
  | imul  => exact am_o_imul C h6 hc hx hq hW hS hl kk
  | iand  => exact am_o_iand C h6 hc hx hq hW hS hl kk
  | ior  => exact am_o_ior C h6 hc hx hq hW hS hl kk
  | ishl  => exact am_o_ishl C h6 hc hx hq hW hS hl kk
  | ishr  => exact am_o_ishr C h6 hc hx hq hW hS hl kk
  | iushr  => exact am_o_iushr C h6 hc hx hq hW hS hl kk
  | idiv  => exact am_o_idiv C h6 hc hx hq hW hS hl kk
  | irem  => exact am_o_irem C h6 hc hx hq hW hS hl kk
  | ineg  => exact am_o_ineg C h6 hc hx hq hW hS hl kk
  | i2l  => exact am_o_i2l C h6 hc hx hq hW hS hl kk
  | i2b  => exact am_o_i2b C h6 hc hx hq hW hS hl kk
  | i2s  => exact am_o_i2s C h6 hc hx hq hW hS hl kk
  | l2i  => exact am_o_l2i C h6 hc hx hq hW hS hl kk
  | lneg  => exact am_o_lneg C h6 hc hx hq hW hS hl kk
  | ladd  => exact am_o_ladd C h6 hc hx hq hW hS hl kk
  | lsub  => exact am_o_lsub C h6 hc hx hq hW hS hl kk
  | lmul  => exact am_o_lmul C h6 hc hx hq hW hS hl kk
  | land  => exact am_o_land C h6 hc hx hq hW hS hl kk
  | lor  => exact am_o_lor C h6 hc hx hq hW hS hl kk
  | ldiv  => exact am_o_ldiv C h6 hc hx hq hW hS hl kk
  | lrem  => exact am_o_lrem C h6 hc hx hq hW hS hl kk
  | lshl  => exact am_o_lshl C h6 hc hx hq hW hS hl kk
  | lcmp  => exact am_o_lcmp C h6 hc hx hq hW hS hl kk
  | goto k => exact am_o_goto C h6 hc hx hq hW hS hl kk
  | ifCond c k => exact am_o_ifCond C h6 hc hx hq hW hS hl kk
  | if_icmp c k => exact am_o_if_icmp C h6 hc hx hq hW hS hl kk
  | tableswitch a1 a2 a3 a4 => exact am_o_tableswitch C h6 hc hx hq hW hS hl kk
  | lookupswitch a1 a2 => exact am_o_lookupswitch C h6 hc hx hq hW hS hl kk
  | getfield i => exact am_o_getfield C h6 hc hx hq hW hS hl kk
  | iaload  => exact am_o_iaload C h6 hc hx hq hW hS hl kk
  | baload  => exact am_o_baload C h6 hc hx hq hW hS hl kk
  | laload  => exact am_o_laload C h6 hc hx hq hW hS hl kk
  | aaload  => exact am_o_aaload C h6 hc hx hq hW hS hl kk
  | iastore  => exact am_o_iastore C h6 hc hx hq hW hS hl kk
  | bastore  => exact am_o_bastore C h6 hc hx hq hW hS hl kk
  | lastore  => exact am_o_lastore C h6 hc hx hq hW hS hl kk
  | aastore  => exact am_o_aastore C h6 hc hx hq hW hS hl kk
  | arraylength  => exact am_o_arraylength C h6 hc hx hq hW hS hl kk
  | dup  => exact am_o_dup C h6 hc hx hq hW hS hl kk
  | dup2  => exact am_o_dup2 C h6 hc hx hq hW hS hl kk
  | pop  => exact am_o_pop C h6 hc hx hq hW hS hl kk
  | invokespecial i => exact am_o_invokespecial C h6 hc hx hq hW hS hl kk
  | putfield j => exact am_o_putfield (fun h => am_hinit hr he h) C h6 hc hx hq hW hS hl kk
  | newarray j => exact am_o_newarray hrc hrs C h6 hc hx hq hW hS hl kk
  | new j => exact am_o_new hrc hrs C h6 hc hx hq hW hS hl kk
  | anewarray j => exact am_o_anewarray hrc hrs C h6 hc hx hq hW hS hl kk
  | multianewarray j k => exact am_o_multianewarray hrc hrs C h6 hc hx hq hW hS hl kk
  | invokestatic j => exact am_o_invokestatic hrc hrs C h6 hc hx hq hW hS hl kk
  | invokevirtual j => exact am_o_invokevirtual hSV hG hrc0 hrs0 C (am_lo_6 hr he h5) hc hx hq hW hS hl kk
  | _ => cases hx
end AMS
theorem am_mo_with {q0 : Prop} {a : AO} {q : Option Prop} {t : ASt} {w : AWd} (h : am_with q0 a = some (q, t)) (k : ∀ q1, a = some (q1, t) → w.1.1 ≤ t.2.2.2.1.1 ∧ w.1.2.1 ≤ t.2.2.2.1.2.1) : w.1.1 ≤ t.2.2.2.1.1 ∧ w.1.2.1 ≤ t.2.2.2.1.2.1 := by
  obtain ⟨q1, h1, -⟩ := am_with_inv h
  exact k q1 h1
/-- cells come, none go -/
theorem am_mo {E : AE} {o : Nat} {s t : ASt} {q : Option Prop} (h : ax E o s = some (q, t)) : s.2.2.2.1.1 ≤ t.2.2.2.1.1 ∧ s.2.2.2.1.2.1 ≤ t.2.2.2.1.2.1 := by
  obtain ⟨ins, nx, a, b, z, v⟩ := E
  obtain ⟨pc, lv, st, w⟩ := s
  show w.1.1 ≤ t.2.2.2.1.1 ∧ w.1.2.1 ≤ t.2.2.2.1.2.1
  cases ins
  all_goals first
    | (cases h; done)
    | (cases h; exact ⟨Nat.le_refl _, Nat.le_refl _⟩)
    | (simp only [ax, am_ld, am_ldl, am_lda, am_sti, am_stl, am_sta, am_ii, am_ll, am_dv, am_dvl, am_i1, am_l1, am_br, am_if, am_icmp, am_to, am_tsw, am_lsw, am_get, am_put, am_iald, am_zald, am_lald, am_aald, am_iast, am_zast, am_last, am_aast, am_len, am_newa, am_new, am_mna, am_dup, am_dup2, am_pop, am_cpy, am_vcall, am_scall, am_icall, am_iinc, cond_eq_ite] at h
       (try (refine am_mo_with h fun q1 h => ?_; simp only [am_ld, am_ldl, am_lda, am_sti, am_stl, am_sta, am_ii, am_ll, am_dv, am_dvl, am_i1, am_l1, am_br, am_if, am_icmp, am_to, am_tsw, am_lsw, am_get, am_put, am_iald, am_zald, am_lald, am_aald, am_iast, am_zast, am_last, am_aast, am_len, am_newa, am_new, am_mna, am_dup, am_dup2, am_pop, am_cpy, am_vcall, am_scall, am_icall, am_iinc, cond_eq_ite] at h))
       (repeat' split at h)
       all_goals first
         | (cases h; done)
         | (simp only [am_with, Option.some.injEq, Prod.mk.injEq] at h
            obtain ⟨-, rfl⟩ := h
            first
              | exact ⟨Nat.le_refl _, Nat.le_refl _⟩
              | (simp only [am_mk, am_mk2]; omega)))
/-- .. along a run -/
theorem Rn.mo : ∀ (n d mid : Nat) (s : ASt) (r : Option Value × AWd), Rn n d mid s r → s.2.2.2.1.1 ≤ r.2.1.1 ∧ s.2.2.2.1.2.1 ≤ r.2.1.2.1 := by
  intro n
  induction n with
  | zero => intro d mid s r h; exact h.elim
  | succ n ih =>
    intro d mid s r h
    obtain ⟨-, m, e, -, -, h⟩ := h
    rcases h with h | ⟨o, q, s', h1, -, h3⟩ | ⟨-, -, K, As, rest, d1, v, w1, -, -, -, -, -, -, -, g7, g8⟩
    · unfold am_fin at h
      split at h
      · obtain ⟨x, -, -, rfl⟩ := h; exact ⟨Nat.le_refl _, Nat.le_refl _⟩
      · obtain ⟨x, -, -, rfl⟩ := h; exact ⟨Nat.le_refl _, Nat.le_refl _⟩
      · obtain ⟨-, -, rfl⟩ := h; exact ⟨Nat.le_refl _, Nat.le_refl _⟩
      · exact h.elim
    · have a := am_mo h1
      have b := ih _ _ _ _ h3
      exact ⟨Nat.le_trans a.1 b.1, Nat.le_trans a.2 b.2⟩
    · have a := ih _ _ _ _ g7
      have b := ih _ _ _ _ g8
      exact ⟨Nat.le_trans a.1 b.1, Nat.le_trans a.2 b.2⟩
/-- a run of the abstract machine is a run of the machine, whatever stands behind its end -/
def am_Snd (l : Launch) (D : va_G) (aC : Nat → ClassId) (B0 : Nat) (sp : Nat → Nat) (xs : Nat → Int32) (L d mid : Nat) (st : ASt) (r : Option Value × AWd) : Prop :=
  ∀ (rc : AR), am_all[mid]? = some rc → ∀ (p : Program) (e : Env) (R : Room) (s : State) (m : MethodId) (args : Array Value) (below : List Frame) (meth : Method) (c : Code) (Q : State → Prop) (CT ST : Nat), am_Cx p R s m args meth c D aC B0 sp xs L rc d → am_Gs B0 sp s s.heap → CT ≤ R.cells → ST ≤ R.slots →
    (∀ (ins : Instr) (nx a b z : Nat) (v : Value) (t : ASt) (H : Heap) (locs : List Loc) (ls : Array Slot), am_chk rc.2.1 rc.2.2.2.2.1 t.1 (ins, nx, a, b, z, v) = true → am_fin rc.2.2.2.1 ins t r → am_WH D B0 sp aC xs L t.2.2.2 H → va_S (fun q => B0 ≤ q) s.heap H locs → W p l e R s m args below meth c H locs CT ST Q (F0 m t.1 ls (t.2.2.1.map (am_cv (am_ad B0 sp))))) →
    ∀ (H : Heap) (locs : List Loc) (cells slots : Nat) (ls : Array Slot), am_WH D B0 sp aC xs L st.2.2.2 H → va_S (fun q => B0 ≤ q) s.heap H locs → am_LH (am_ad B0 sp) ls rc.2.2.1 st.2.1 → cells + r.2.1.1 = CT + st.2.2.2.1.1 → slots + r.2.1.2.1 = ST + st.2.2.2.1.2.1 →
      W p l e R s m args below meth c H locs cells slots Q (F0 m st.1 ls (st.2.2.1.map (am_cv (am_ad B0 sp))))
/-- the locals with which a method begins -/
theorem am_g_rep : ∀ (n i : Nat), am_g (List.replicate n none) i = none := by
  intro n
  induction n with
  | zero => intro i; rfl
  | succ n ih => intro i; cases i with
    | zero => rfl
    | succ i => exact ih i
theorem am_fill_g (ad : Nat → Nat) (k : Nat) : ∀ (vs : List Value) (j i : Nat) (v : Value), am_g (am_fill vs ++ List.replicate k none) i = some v → (j + i, am_cv ad v) ∈ lv_args j (vs.map (am_cv ad)) := by
  intro vs
  induction vs with
  | nil => intro j i v h; rw [show am_fill [] ++ List.replicate k none = List.replicate k none from rfl, am_g_rep] at h; cases h
  | cons u vs ih =>
    intro j i v h
    have one : (am_cv ad u).category = 1 → am_fill (u :: vs) = some u :: am_fill vs → (j + i, am_cv ad v) ∈ lv_args j ((u :: vs).map (am_cv ad)) := by
      intro hc hf
      rw [hf] at h
      rw [List.map_cons, lv_args, if_neg (by omega)]
      cases i with
      | zero => cases h; exact List.mem_cons_self
      | succ i =>
        have := ih (j + 1) i v h
        rw [show j + 1 + i = j + (i + 1) by omega] at this
        exact List.mem_cons_of_mem _ this
    have two : (am_cv ad u).category = 2 → am_fill (u :: vs) = some u :: none :: am_fill vs → (j + i, am_cv ad v) ∈ lv_args j ((u :: vs).map (am_cv ad)) := by
      intro hc hf
      rw [hf] at h
      rw [List.map_cons, lv_args, if_pos hc]
      match i, h with
      | 0, h => cases h; exact List.mem_cons_self
      | 1, h => cases h
      | i + 2, h =>
        have := ih (j + 2) i v h
        rw [show j + 2 + i = j + (i + 2) by omega] at this
        exact List.mem_cons_of_mem _ this
    cases u with
    | long x => exact two rfl rfl
    | double x => exact two rfl rfl
    | _ => exact one rfl rfl
theorem am_fill_len (ad : Nat → Nat) : ∀ vs : List Value, (lg_sl (vs.map (am_cv ad))).length = (am_fill vs).length := by
  intro vs
  induction vs with
  | nil => rfl
  | cons u vs ih =>
    have e : lg_sl ((u :: vs).map (am_cv ad)) = (if (am_cv ad u).category = 2 then [Slot.val (am_cv ad u), Slot.second] else [Slot.val (am_cv ad u)]) ++ lg_sl (vs.map (am_cv ad)) := rfl
    rw [e, List.length_append, ih]
    cases u <;> simp [am_cv, Value.category, am_fill] <;> omega
theorem am_LH.start {ad : Nat → Nat} {As : List Value} {n : Nat} (h : (am_fill As).length ≤ n) : am_LH ad ((lg_sl (As.map (am_cv ad)) ++ List.replicate (n - (lg_sl (As.map (am_cv ad))).length) Slot.unset).toArray) n (am_args n As) := by
  obtain ⟨h1, h2, h3⟩ := lv_entry (As.map (am_cv ad)) (n := n) (by rw [am_fill_len]; exact h)
  refine ⟨h1, h2, by simp [am_args]; omega, fun i v hv => ?_⟩
  have := am_fill_g ad _ As 0 i v hv
  rw [Nat.zero_add] at this
  exact h3 _ this
theorem am_narZ {x : Int32} (h : x &&& 1 = x) : narrow .boolean (.int x) = .int x := by
  show Value.int (x &&& 1) = .int x
  rw [h]
/-- a callee's contract -/
theorem am_met {l : Launch} {D : va_G} {aC : Nat → ClassId} {B0 : Nat} {sp : Nat → Nat} {xs : Nat → Int32} {L d a : Nat} {k : AR} {As : List Value} {w w1 : AWd} {v : Option Value} {mc ms : Nat} (ha : a < 123) (hk : am_all[a]? = some k) (hf : (am_fill As).length ≤ k.2.2.1) (hmc : mc + w.1.1 = w1.1.1) (hms : ms + w.1.2.1 = w1.1.2.1)
    (h : am_Snd l D aC B0 sp xs L d a (0, am_args k.2.2.1 As, [], w) (v, w1)) : Met l k.1 (am_wS k.1 k.2.1 k.2.2.1 k.2.2.2.1) { frames := d, cells := mc, slots := ms, locals := 35 * d } (am_Pc D aC B0 sp xs L As w) (am_Qc D aC B0 sp xs L v w1) mc ms (fun q => B0 ≤ q) := by
  obtain ⟨g1, -, -, -, -, g6, -, -, -, -, g11⟩ := am_mok_inv ha hk
  refine Met.ofW (cc := k.2.1) (maxL := k.2.2.1) (ret := k.2.2.2.1) g11 rfl ?_
  intro p e s m args below meth c s₁ B hml hv
  obtain ⟨rfl, hWH, hK, hX, hbB, hBs, hG⟩ := hv
  have hts := atoms_spec (ws := am_wS k.1 k.2.1 k.2.2.1 k.2.2.2.1) B.pre
  have hown : s.vm.findClass k.1.cls = some m.cls := findClass_of_methodNamed B.named
  have hin : meth.name = k.1.name := (name_of_methodNamed B.named B.method).1
  rw [g6] at hown
  rw [lg_entry_eq]
  have hl := am_LH.start (ad := am_ad B0 sp) (n := k.2.2.1) hf
  have hr := B.returns
  have hlk := B.notSynchronized
  have hx := B.exec
  have hb := B.bytes
  refine h k hk p e _ s m _ below meth c _ mc ms ⟨hx, hb, hml, hr, hlk, hown, fun w hw => hts w (List.mem_cons_of_mem _ hw), Nat.le_refl _, Nat.le_refl _, fun e => hin.trans e, hK, hX, hbB, hBs, Nat.lt_of_lt_of_le hbB hBs⟩ hG (Nat.le_refl _) (Nat.le_refl _) ?_ s.heap [] 0 0 _ hWH va_S.rf hl (by show 0 + w1.1.1 = mc + w.1.1; omega) (by show 0 + w1.1.2.1 = ms + w.1.2.1; omega)
  intro ins nx a b z v9 t H locs ls hc hfin hW hS
  obtain ⟨hd, -, -⟩ := am_chk_inv hc
  obtain ⟨pc, lv, st, w9⟩ := t
  unfold am_fin at hfin
  split at hfin
  · obtain ⟨x, hst, hrt, hrr⟩ := hfin
    cases hrr
    have hst : st = [.int x] := hst
    subst hst
    rcases hrt with hrt | ⟨hrt, hx1⟩
    · exact W.iret hx hb (hr.trans hrt) (fun t ht hWm => ⟨rfl, by rw [ht]; exact hW, hS.F ht⟩) hS.2.2 hd
    · exact W.zret hx hb (hr.trans hrt) (am_narZ hx1) (fun t ht hWm => ⟨rfl, by rw [ht]; exact hW, hS.F ht⟩) hS.2.2 hd
  · obtain ⟨x, hst, hrt, hrr⟩ := hfin
    cases hrr
    have hst : st = [.long x] := hst
    subst hst
    exact W.lret hx hb (hr.trans hrt) (fun t ht hWm => ⟨rfl, by rw [ht]; exact hW, hS.F ht⟩) hS.2.2 hd
  · obtain ⟨hst, hrt, hrr⟩ := hfin
    cases hrr
    have hst : st = [] := hst
    subst hst
    exact W.vret hx hb (hr.trans hrt) (fun t ht hWm => ⟨rfl, by rw [ht]; exact hW, hS.F ht⟩) hS.2.2 hd
  · exact hfin.elim
section AMS

variable {p : Program} {l : Launch} {e : Env} {R : Room} {s : State} {m : MethodId} {args : Array Value} {below : List Frame} {meth : Method} {c : Code} {H : Heap} {locs : List Loc} {cells slots : Nat} {Q : State → Prop}
variable {D : va_G} {B0 : Nat} {sp : Nat → Nat} {aC : Nat → ClassId} {xs : Nat → Int32} {L : Nat} {r : AR} {d : Nat}
theorem am_callK {mc ms : Nat} {v : Option Value} {w1 : AWd} {a : Array Value} {pc : Nat} {ls : Array Slot} {st0 rest : List Value} (hr : va_Run p l e R s m args below meth c H locs cells slots mc ms (F0 m pc ls st0) rest (am_Qc D aC B0 sp xs L v w1 a) (fun q => B0 ≤ q)) (hS : va_S (fun q => B0 ≤ q) s.heap H locs)
    (kk : ∀ (H1 : Heap) (locs1 : List Loc), am_WH D B0 sp aC xs L w1 H1 → va_S (fun q => B0 ≤ q) s.heap H1 locs1 → W p l e R s m args below meth c H1 locs1 (cells + mc) (slots + ms) Q (F0 m (pc + 3) ls ((v.map (am_cv (am_ad B0 sp))).toList ++ rest))) : W p l e R s m args below meth c H locs cells slots Q (F0 m pc ls st0) := by
  intro T hT X
  obtain ⟨v1, st₀, t, T', L1, h0, X', hL, e1, e2, ⟨hv, hw, hz, hk⟩, st⟩ := hr T hT X
  cases hv
  rw [h0] at hz hk
  obtain ⟨t2, a1, b1⟩ := kk T'.heap (locs ++ L1) (by rw [e1]; exact hw) ⟨Nat.le_trans hS.1 (by rw [e1]; exact hz), fun q h1 h2 => by rw [e1, hk q (Nat.lt_of_lt_of_le h1 hS.1) h2]; exact hS.2.1 q h1 h2, fun q hq => by
      rcases List.mem_append.mp hq with h | h
      · exact hS.2.2 q h
      · exact hL q h⟩ T' rfl X'
  exact ⟨t2, st t2 a1, b1⟩
theorem am_stk {ad : Nat → Nat} {As rest : List Value} : (As.reverse ++ rest).map (am_cv ad) = (As.map (am_cv ad)).reverse ++ rest.map (am_cv ad) := by simp
theorem am_stkR {ad : Nat → Nat} {x : Nat} {As rest : List Value} : ((Value.ref x :: As).reverse ++ rest).map (am_cv ad) = (As.map (am_cv ad)).reverse ++ .ref (ad x) :: rest.map (am_cv ad) := by simp [am_cv]
theorem am_yn_at {b a : Nat} {k : AR} (h : b ≤ 4) (hk : am_all[a]? = some k) : am_yn b a = k.1 := by
  match b, h with
  | 0, _ => show (match am_all[a]? with | some r => r.1 | none => objectInit) = _; rw [hk]
  | 1, _ => show (match am_all[a]? with | some r => r.1 | none => objectInit) = _; rw [hk]
  | 2, _ => show (match am_all[a]? with | some r => r.1 | none => objectInit) = _; rw [hk]
  | 3, _ => show (match am_all[a]? with | some r => r.1 | none => objectInit) = _; rw [hk]
  | 4, _ => show (match am_all[a]? with | some r => r.1 | none => objectInit) = _; rw [hk]
  | n + 5, h => omega
/-- a call of the class's own methods -/
theorem am_call {ins : Instr} {nx a b z : Nat} {v0 : Value} {pc : Nat} {lv : AL} {w w1 : AWd} {ls : Array Slot} {k : AR} {As rest : List Value} {d' : Nat} {v : Option Value} (C : am_Cx p R s m args meth c D aC B0 sp xs L r d) (hG : am_Gs B0 sp s s.heap) (hc : am_chk r.2.1 r.2.2.2.2.1 pc (ins, nx, a, b, z, v0) = true) (hcall : am_isCall ins = true) (hb4 : b ≤ 4) (hk : am_all[a]? = some k) (hd' : d' < d ∧ k.2.2.1 + 19 + 35 * d' ≤ 35 * d) (hlen : As.length = k.2.2.2.2.2.1) (hf : (am_fill As).length ≤ k.2.2.1) (hrcv : am_rcv b k.2.2.2.2.1 As w) (h8 : (rest.map fun v => v.category).sum ≤ 8)
    (h : am_Snd l D aC B0 sp xs L d' a (0, am_args k.2.2.1 As, [], w) (v, w1)) (hm1 : w.1.1 ≤ w1.1.1) (hm2 : w.1.2.1 ≤ w1.1.2.1) (hrc : cells + w1.1.1 ≤ R.cells + w.1.1) (hrs : slots + w1.1.2.1 ≤ R.slots + w.1.2.1) (hW : am_WH D B0 sp aC xs L w H) (hS : va_S (fun q => B0 ≤ q) s.heap H locs) (hl : am_LH (am_ad B0 sp) ls r.2.2.1 lv)
    (kk : ∀ (H1 : Heap) (locs1 : List Loc) (c1 s1 : Nat), am_WH D B0 sp aC xs L w1 H1 → va_S (fun q => B0 ≤ q) s.heap H1 locs1 → c1 + w.1.1 = cells + w1.1.1 → s1 + w.1.2.1 = slots + w1.1.2.1 → W p l e R s m args below meth c H1 locs1 c1 s1 Q (F0 m nx ls ((v.toList ++ rest).map (am_cv (am_ad B0 sp))))) :
    W p l e R s m args below meth c H locs cells slots Q (F0 m pc ls ((As.reverse ++ rest).map (am_cv (am_ad B0 sp)))) := by
  obtain ⟨hx0, hb, hml, hr, hlk, hown, hts, hfr, hlo, hin, hK, hX, hbB, hB, hbs⟩ := C
  obtain ⟨hd, hn, hca⟩ := am_chk_inv hc
  obtain ⟨mc, hmc⟩ : ∃ mc, mc + w.1.1 = w1.1.1 := ⟨w1.1.1 - w.1.1, by omega⟩
  obtain ⟨ms, hms⟩ : ∃ ms, ms + w.1.2.1 = w1.1.2.1 := ⟨w1.1.2.1 - w.1.2.1, by omega⟩
  have hpre : ∀ U : State, U.heap = H → s.WarmedH U.vm → am_Pc D aC B0 sp xs L As w (As.map (am_cv (am_ad B0 sp))).toArray U := fun U hU hWm => ⟨rfl, hK.in hX hbB hbs hG hW hS hU hWm⟩
  have hrest : ((rest.map (am_cv (am_ad B0 sp))).map fun v => v.category).sum ≤ 8 := by rw [am_cvsum]; exact h8
  have key : (∃ x, (r.2.2.2.2.1, (match ins with | .invokevirtual i => i | .invokestatic i => i | .invokespecial i => i | _ => 0), a, b, x) ∈ lkM ∧ lw_tbl[x]? = some (am_lw (r.2.2.2.2.1, (match ins with | .invokevirtual i => i | .invokestatic i => i | .invokespecial i => i | _ => 0), a, b, x))) := by
    cases ins with
    | invokevirtual i => exact am_lkM (Bool.and_eq_true_iff.mp hca).1
    | invokestatic i => exact am_lkM (Bool.and_eq_true_iff.mp hca).1
    | invokespecial i => exact am_lkM (Bool.and_eq_true_iff.mp hca).1
    | _ => cases hcall
  obtain ⟨x9, hmem, hlw⟩ := key
  obtain ⟨ha, hk0, hk1, hk2⟩ := am_kd_at hmem hb4 hk
  obtain ⟨g1, g2, g3, g4, g5, g6, g7, g8, g9, g10, g11⟩ := am_mok_inv ha hk
  have hM := am_met (mc := mc) (ms := ms) ha hk hf hmc hms h
  have hyn := am_yn_at hb4 hk
  have hroom : d' + 1 ≤ R.frames ∧ 8 + (k.2.2.1 + 11) + 35 * d' ≤ R.locals := ⟨by omega, by omega⟩
  have hfit : cells + mc ≤ R.cells ∧ slots + ms ≤ R.slots := ⟨by omega, by omega⟩
  have hstk : ((v.map (am_cv (am_ad B0 sp))).toList ++ rest.map (am_cv (am_ad B0 sp))) = (v.toList ++ rest).map (am_cv (am_ad B0 sp)) := by cases v <;> simp
  have kk2 : ∀ (H1 : Heap) (locs1 : List Loc), am_WH D B0 sp aC xs L w1 H1 → va_S (fun q => B0 ≤ q) s.heap H1 locs1 → W p l e R s m args below meth c H1 locs1 (cells + mc) (slots + ms) Q (F0 m nx ls ((v.map (am_cv (am_ad B0 sp))).toList ++ rest.map (am_cv (am_ad B0 sp)))) := fun H1 locs1 q1 q2 => by
    rw [hstk]
    exact kk H1 locs1 _ _ q1 q2 (by omega) (by omega)
  have fix : CallFix p m c r.2.1 r.2.2.1 s args am_TT (am_RO r.2.2.2.2.1) := ⟨hx0, hb, hml, hown, hts⟩
  cases ins with
  | invokevirtual i =>
    have hnx : nx = pc + 3 := hn
    subst hnx
    have hb0 : b = 0 := by
      have := (Bool.and_eq_true_iff.mp hca).2
      simp only [Bool.or_eq_true] at this
      rcases this with (q | q) | q <;> have q := Nat.eq_of_beq_eq_true q <;> omega
    subst hb0
    obtain ⟨j1, j2, j3⟩ := hk0 rfl
    obtain ⟨x, l9, rfl, hx1, hx2⟩ := hrcv
    have hlw : lw_tbl[x9]? = some (Jvm.Cond.methodLink (am_RO r.2.2.2.2.1) i (am_yn 0 a)) := hlw
    rw [hyn] at hlw
    rw [j1] at g9
    rw [am_stkR]
    refine am_callK (va_runV (As := l9.map (am_cv (am_ad B0 sp))) (b := am_ad B0 sp x) (C := am_RO k.2.2.2.2.1) (n := k.2.2.2.2.2.1 - 1) fix hM (cwV _ hts (am_gV (am_mem hlw rfl) (g3 j1) (g4 j1 j2) (by rw [← g6]; exact g5) (am_gT g1)) rfl rfl rfl ⟨g6, g7, g8, g9⟩ hroom) ⟨am_Pc.blind, va_recv hK.1 hW.1 (am_vw _ j3) ((am_ws_get hx1).trans (by rw [am_E_obj hx2])), hpre⟩ rfl (by simp at hlen ⊢; omega) hl.1 rfl (lv_room hrest) hd hfit) hS kk2
  | invokestatic i =>
    have hnx : nx = pc + 3 := hn
    subst hnx
    have hb0 : b = 1 ∨ b = 3 := by
      have := (Bool.and_eq_true_iff.mp hca).2
      simp only [Bool.or_eq_true, Bool.and_eq_true] at this
      rcases this with (q | q) | q
      · exact Or.inl (Nat.eq_of_beq_eq_true q)
      · exact Or.inr (Nat.eq_of_beq_eq_true q)
      · have := Nat.le_of_ble_eq_true q.1; omega
    have j1 := hk1 hb0
    rw [j1] at g9
    rw [am_stk]
    rcases hb0 with rfl | rfl
    · have hlw : lw_tbl[x9]? = some (Jvm.Cond.methodLink (am_RO r.2.2.2.2.1) i (am_yn 1 a)) := hlw
      rw [hyn] at hlw
      exact am_callK (va_runS (As := As.map (am_cv (am_ad B0 sp))) (n := k.2.2.2.2.2.1 - 0) fix hM (va_cwS _ hts (am_gS (am_mem hlw rfl) (g2 j1) g5 (am_gT g1)) rfl rfl rfl ⟨g7, g8, g9⟩ hroom) ⟨am_Pc.blind, hpre⟩ rfl (by simp at hlen ⊢; omega) hl.1 rfl (lv_room hrest) hd hfit) hS kk2
    · have hlN := hK.2.1 _ hmem (Or.inl rfl)
      have hlN : va_Nw (Jvm.Cond.methodLinkNest (am_RO r.2.2.2.2.1) i (am_yn 3 a) RX6) s := hlN
      rw [hyn] at hlN
      exact am_callK (va_runSN (As := As.map (am_cv (am_ad B0 sp))) (n := k.2.2.2.2.2.1 - 0) fix hM ⟨va_cnB _ hts (am_gT g1) rfl rfl rfl hlN (hts _ g5) ⟨g7, g8, g9⟩ hroom, hts _ (g2 j1), trivial⟩ ⟨am_Pc.blind, hpre⟩ rfl (by simp at hlen ⊢; omega) hl.1 rfl (lv_room hrest) hd hfit) hS kk2
  | invokespecial i =>
    have hnx : nx = pc + 3 := hn
    subst hnx
    have hb0 : b = 2 ∨ b = 4 := by
      have := (Bool.and_eq_true_iff.mp hca).2
      simp only [Bool.or_eq_true] at this
      rcases this with (q | q) | q
      · exact Or.inl (Nat.eq_of_beq_eq_true q)
      · exact Or.inr (Nat.eq_of_beq_eq_true q)
      · have := Nat.eq_of_beq_eq_true q; omega
    obtain ⟨j1, j2, j3, j4⟩ := hk2 hb0
    rw [j1] at g9
    rcases hb0 with rfl | rfl
    · obtain ⟨x, l9, rfl⟩ := hrcv
      have hlw : lw_tbl[x9]? = some (Jvm.Cond.methodLink (am_RO r.2.2.2.2.1) i (am_yn 2 a)) := hlw
      rw [hyn] at hlw
      rw [am_stkR]
      exact am_callK (va_runI (As := l9.map (am_cv (am_ad B0 sp))) (b := am_ad B0 sp x) (n := k.2.2.2.2.2.1 - 1) fix hM (cwI _ hts (am_gT g1) (by rw [am_wS, j3]) rfl rfl (hts _ g5) (hts _ (am_mem hlw rfl)) (hts _ (g3 j1)) j2 ⟨g7, g8, g9⟩ hroom) ⟨am_Pc.blind, hpre⟩ rfl (by simp at hlen ⊢; omega) hl.1 rfl (lv_room hrest) hd hfit) hS kk2
    · obtain ⟨x, l9, rfl⟩ := hrcv
      have hlN := hK.2.1 _ hmem (Or.inr rfl)
      have hlN : va_Nw (Jvm.Cond.methodLinkNest (am_RO r.2.2.2.2.1) i (am_yn 4 a) RX6) s := hlN
      rw [hyn] at hlN
      rw [am_stkR]
      exact am_callK (va_runIN (As := l9.map (am_cv (am_ad B0 sp))) (b := am_ad B0 sp x) (n := k.2.2.2.2.2.1 - 1) fix hM ⟨va_cnB _ hts (am_gT g1) (by rw [am_wS, j3]) rfl rfl hlN (hts _ g5) ⟨g7, g8, g9⟩ hroom, j2, hts _ (g3 j1)⟩ ⟨am_Pc.blind, hpre⟩ rfl (by simp at hlen ⊢; omega) hl.1 rfl (lv_room hrest) hd hfit) hS kk2
  | _ => cases hcall
end AMS
theorem am_sound {l : Launch} {D : va_G} {aC : Nat → ClassId} {B0 : Nat} {sp : Nat → Nat} {xs : Nat → Int32} {L : Nat} (hSV : am_SV l B0 sp) : ∀ (n d mid : Nat) (st : ASt) (r : Option Value × AWd), Rn n d mid st r → am_Snd l D aC B0 sp xs L d mid st r := by
  intro n
  induction n with
  | zero => intro d mid st r h; exact h.elim
  | succ n ih =>
    intro d mid st r hR rc hrc p e R s m args below meth c Q CT ST C hG hCT hST hfin H locs cells slots ls hW hS hl e1 e2
    obtain ⟨h6, rc', E, h1, h2, hR⟩ := hR
    rw [hrc] at h1
    cases h1
    have hc := am_rok_at hrc _ _ h2
    obtain ⟨ins, nx, a, b, z, v0⟩ := E
    obtain ⟨pc, lv, stk, w⟩ := st
    rcases hR with h | ⟨o, q, t, g1, g2, g3⟩ | ⟨hcall, hb4, k, As, rest, d', v, w1, g1, g2, g3, g4, g4f, g5, g6, g7, g8⟩
    · have hr2 : r.2 = w := by
        unfold am_fin at h
        split at h
        · obtain ⟨x, -, -, rfl⟩ := h; rfl
        · obtain ⟨x, -, -, rfl⟩ := h; rfl
        · obtain ⟨-, -, rfl⟩ := h; rfl
        · exact h.elim
      rw [hr2] at e1 e2
      have ec : cells = CT := Nat.add_right_cancel e1
      have es : slots = ST := Nat.add_right_cancel e2
      subst ec; subst es
      exact hfin ins nx a b z v0 (pc, lv, stk, w) H locs ls hc h hW hS
    · have m1 := am_mo g1
      have m2 := Rn.mo _ _ _ _ _ g3
      have e1 : cells + r.2.1.1 = CT + w.1.1 := e1
      have e2 : slots + r.2.1.2.1 = ST + w.1.2.1 := e2
      have m11 : w.1.1 ≤ t.2.2.2.1.1 := m1.1
      have m12 : w.1.2.1 ≤ t.2.2.2.1.2.1 := m1.2
      refine am_step hSV hG hrc h2 (by omega) (by omega) (by omega) (by omega) C h6 g1 g2 hW hS hl ?_
      intro H' locs' ls' c' s' q1 q2 q3 q4 q5
      exact ih d mid t r g3 rc hrc p e R s m args below meth c Q CT ST C hG hCT hST hfin H' locs' c' s' ls' q1 q2 q3 (by omega) (by omega)
    · have m1 := Rn.mo _ _ _ _ _ g7
      have m2 := Rn.mo _ _ _ _ _ g8
      have m11 : w.1.1 ≤ w1.1.1 := m1.1
      have m12 : w.1.2.1 ≤ w1.1.2.1 := m1.2
      have m21 : w1.1.1 ≤ r.2.1.1 := m2.1
      have m22 : w1.1.2.1 ≤ r.2.1.2.1 := m2.2
      have e1 : cells + r.2.1.1 = CT + w.1.1 := e1
      have e2 : slots + r.2.1.2.1 = ST + w.1.2.1 := e2
      have g3 : stk = As.reverse ++ rest := g3
      subst g3
      refine am_call C hG hc hcall hb4 g1 g2 g4 g4f g5 g6 (ih _ _ _ _ g7) m11 m12 (by omega) (by omega) hW hS hl ?_
      intro H1 locs1 c1 s1 q1 q2 q3 q4
      exact ih d mid _ r g8 rc hrc p e R s m args below meth c Q CT ST C hG hCT hST hfin H1 locs1 c1 s1 ls q1 q2 hl (by show c1 + _ = CT + w1.1.1; omega) (by show s1 + _ = ST + w1.1.2.1; omega)
