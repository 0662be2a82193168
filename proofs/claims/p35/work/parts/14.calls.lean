/-! what stands beside the world; a method's start and end -/
def am_sb (j : Nat) : List Int32 := am_str j
def am_sL : List Nat := [3, 4, 5, 6]
def am_sB : List (List Int32) := [am_str 0, am_str 1, am_str 2, am_str 3]
/-- the string constants, and the static fields that their methods read -/
def am_Gs (B0 : Nat) (sp : Nat → Nat) (U : State) (H : Heap) : Prop := vk_S 4 am_sL am_sB (fun j => sp (9990 + j)) (fun j => sp (9980 + j)) (fun q => B0 ≤ q) U H ∧ va_Z "java/lang/String" "COMPACT_STRINGS" "Z" (.int 1) (fun q => B0 ≤ q) U H ∧ va_Zq "jdk/internal/util/Preconditions" "SIOOBE_FORMATTER" "Ljava/util/function/BiFunction;" (fun q => B0 ≤ q) U H
theorem am_Gs.moved {B0 : Nat} {sp : Nat → Nat} {u U : State} {H : Heap} (hvm : u.vm.Alike U.vm) (h : am_Gs B0 sp u H) : am_Gs B0 sp U H :=
  ⟨h.1.moved hvm, h.2.1.moved hvm, h.2.2.elim (fun g => Or.inl (g.moved hvm)) (fun ⟨t, g⟩ => Or.inr ⟨t, g.moved hvm⟩)⟩
theorem am_Gs.kept {B0 : Nat} {sp : Nat → Nat} {U : State} {H H1 : Heap} (h : am_Gs B0 sp U H) (hq : ∀ a : Nat, a < H.size → ¬ B0 ≤ a → H1[a]? = H[a]?) : am_Gs B0 sp U H1 :=
  ⟨h.1.kept hq, h.2.1.kept hq, h.2.2.elim (fun g => Or.inl (g.kept hq)) (fun ⟨t, g⟩ => Or.inr ⟨t, g.kept hq⟩)⟩
theorem am_K.warm {D : va_G} {aC : Nat → ClassId} {sp : Nat → Nat} {s U : State} (hW : s.WarmedH U.vm) (h : am_K D aC sp s) : am_K D aC sp U := by
  obtain ⟨h1, h2, h3, h4, h5, h6⟩ := h
  refine ⟨h1.moved hW.alike, fun q hq hk => ?_, fun j q hj => (h3 j q hj).warm hW, h4.moved hW.alike, h5.moved hW.alike, over_moved hW.alike h6⟩
  have h9 := h2 q hq hk
  unfold am_lw at h9 ⊢
  rcases hk with hk | hk <;> rw [hk] at h9 ⊢ <;> exact va_Nw.warmM hW h9
theorem am_K.same {D : va_G} {aC : Nat → ClassId} {sp : Nat → Nat} {s U : State} (hW : s.vm = U.vm) (h : am_K D aC sp s) : am_K D aC sp U := by
  obtain ⟨h1, h2, h3, h4, h5, h6⟩ := h
  have hal : s.vm.Alike U.vm := by rw [hW]; exact Vm.Alike.refl U.vm
  refine ⟨h1.moved hal, fun q hq hk => ?_, fun j q hj => (h3 j q hj).same hW.symm, h4.moved hal, h5.moved hal, over_moved hal h6⟩
  have h9 := h2 q hq hk
  unfold am_lw at h9 ⊢
  rcases hk with hk | hk <;> rw [hk] at h9 ⊢ <;> exact va_Nw.same rfl hW h9
/-- what holds where a method begins, of a machine's state -/
def am_In (D : va_G) (aC : Nat → ClassId) (B0 : Nat) (sp : Nat → Nat) (xs : Nat → Int32) (L : Nat) (w : AWd) (U : State) : Prop :=
  am_WH D B0 sp aC xs L w U.heap ∧ am_K D aC sp U ∧ va_X (sp 9999) L xs U U.heap ∧ sp 9999 < B0 ∧ B0 ≤ U.heap.size ∧ am_Gs B0 sp U U.heap
theorem am_In.same {D : va_G} {aC : Nat → ClassId} {B0 : Nat} {sp : Nat → Nat} {xs : Nat → Int32} {L : Nat} {w : AWd} {U V : State} (h : am_In D aC B0 sp xs L w U) (h1 : U.vm = V.vm) (h2 : V.heap = U.heap) : am_In D aC B0 sp xs L w V := by
  have hal : U.vm.Alike V.vm := by rw [h1]; exact Vm.Alike.refl V.vm
  obtain ⟨g1, g2, g3, g4, g5, g6⟩ := h
  exact ⟨by rw [h2]; exact g1, g2.same h1, by rw [h2]; exact g3.moved hal, g4, by rw [h2]; exact g5, by rw [h2]; exact g6.moved hal⟩
def am_Pc (D : va_G) (aC : Nat → ClassId) (B0 : Nat) (sp : Nat → Nat) (xs : Nat → Int32) (L : Nat) (As : List Value) (w : AWd) : Array Value → State → Prop := fun a U => a = (As.map (am_cv (am_ad B0 sp))).toArray ∧ am_In D aC B0 sp xs L w U
def am_Qc (D : va_G) (aC : Nat → ClassId) (B0 : Nat) (sp : Nat → Nat) (xs : Nat → Int32) (L : Nat) (v : Option Value) (w : AWd) : Array Value → State → Outcome → State → Prop := fun _ st o t => o = .returned (v.map (am_cv (am_ad B0 sp))) ∧ am_WH D B0 sp aC xs L w t.heap ∧ va_F (fun q => B0 ≤ q) st t
theorem am_Pc.blind {D : va_G} {aC : Nat → ClassId} {B0 : Nat} {sp : Nat → Nat} {xs : Nat → Int32} {L : Nat} {As : List Value} {w : AWd} : FrameBlind (am_Pc D aC B0 sp xs L As w) := fun a U g mk h => ⟨h.1, h.2.same rfl rfl⟩
/-- the methods of the strings -/
def am_PS (B0 : Nat) (sp : Nat → Nat) (As : List Value) : Array Value → State → Prop := fun a U => a = As.toArray ∧ am_Gs B0 sp U U.heap
def am_QS (v : Value) : Array Value → State → Outcome → State → Prop := fun _ st o t => o = .returned (some v) ∧ t.heap = st.heap
theorem am_PS.blind {B0 : Nat} {sp : Nat → Nat} {As : List Value} : FrameBlind (am_PS B0 sp As) := fun a U g mk h => ⟨h.1, h.2.moved (Vm.Alike.refl U.vm)⟩
def am_rS : Room := { frames := 5, cells := 0, slots := 0, locals := 180 }
def am_wS (y : MethodName) (bytes : ByteArray) (n : Nat) (ret : Option FieldType) : List Jvm.Cond := Jvm.Cond.code y bytes n ret :: am_TT
theorem am_gT {y : MethodName} {bytes : ByteArray} {n : Nat} {ret : Option FieldType} (h : Jvm.Cond.code y bytes n ret ∈ am_TT) : GoodIn am_TT (am_wS y bytes n ret) := by
  have g : ∀ w ∈ am_TT, w ∈ am_TT ∧ ((w.onTables && w.keeps) = true ∨ ∃ ty, w = .arrayClass ty) := fun w hw => ⟨hw, good_of_word (List.mem_filter.mp hw).2⟩
  intro w hw
  rcases List.mem_cons.mp hw with rfl | hw
  · exact g _ h
  · exact g w hw
theorem am_gV {own : String} {idx : Nat} {C : String} {y : MethodName} {ws : List Jvm.Cond} (h1 : Jvm.Cond.methodLink own idx y ∈ am_TT) (h2 : Jvm.Cond.instanceMethod y ∈ am_TT) (h3 : Jvm.Cond.selects C y y ∈ am_TT) (h4 : Jvm.Cond.initialized C ∈ am_TT) (h5 : GoodIn am_TT ws) : GoodIn am_TT (wsV own idx C y ws) := by
  have g : ∀ w ∈ am_TT, w ∈ am_TT ∧ ((w.onTables && w.keeps) = true ∨ ∃ ty, w = .arrayClass ty) := fun w hw => ⟨hw, good_of_word (List.mem_filter.mp hw).2⟩
  intro w hw
  unfold wsV at hw
  rcases List.mem_append.mp hw with hw | hw
  · simp only [List.mem_cons, List.not_mem_nil, or_false] at hw
    rcases hw with rfl | rfl | rfl | rfl
    · exact g _ h1
    · exact g _ h2
    · exact g _ h3
    · exact g _ h4
  · exact h5 w hw
theorem am_gS {own : String} {idx : Nat} {y : MethodName} {ws : List Jvm.Cond} (h1 : Jvm.Cond.methodLink own idx y ∈ am_TT) (h2 : Jvm.Cond.static y ∈ am_TT) (h4 : Jvm.Cond.initialized y.cls ∈ am_TT) (h5 : GoodIn am_TT ws) : GoodIn am_TT (va_wsS own idx y ws) := by
  have g : ∀ w ∈ am_TT, w ∈ am_TT ∧ ((w.onTables && w.keeps) = true ∨ ∃ ty, w = .arrayClass ty) := fun w hw => ⟨hw, good_of_word (List.mem_filter.mp hw).2⟩
  intro w hw
  unfold va_wsS at hw
  rcases List.mem_append.mp hw with hw | hw
  · simp only [List.mem_cons, List.not_mem_nil, or_false] at hw
    rcases hw with rfl | rfl | rfl
    · exact g _ h1
    · exact g _ h2
    · exact g _ h4
  · exact h5 w hw
abbrev am_wl : List Jvm.Cond := am_wS yJ0_length_8abf5 cJ0_length_8abf5 1 (some .int)
abbrev am_wc : List Jvm.Cond := am_wS yJ0_charAt_5068e cJ0_charAt_5068e 2 (some .char)
def am_SV (l : Launch) (B0 : Nat) (sp : Nat → Nat) : Prop :=
  (∀ j, j < 4 → Met l yJ0_length_8abf5 am_wl am_rS (am_PS B0 sp [.ref (sp (9990 + j))]) (am_QS (.int (am_slen j))) 0 0 (fun _ => False)) ∧
  (∀ (j : Nat) (i : Int32), j < 4 → vp_in i (am_str j).length → Met l yJ0_charAt_5068e am_wc am_rS (am_PS B0 sp [.ref (sp (9990 + j)), .int i]) (am_QS (.int ((am_str j).getD i.toNatClampNeg 0))) 0 0 (fun _ => False))
theorem am_w_len : Jvm.Cond.code yJ0_length_8abf5 cJ0_length_8abf5 1 (some .int) ∈ am_TT ∧ Jvm.Cond.instanceMethod yJ0_length_8abf5 ∈ am_TT ∧ Jvm.Cond.selects RJ0 yJ0_length_8abf5 yJ0_length_8abf5 ∈ am_TT ∧ Jvm.Cond.initialized RJ0 ∈ am_TT := ⟨am_mem (z := 559) (by decide +kernel) rfl, am_mem (z := 557) (by decide +kernel) rfl, am_mem (z := 558) (by decide +kernel) rfl, am_mem (z := 35) (by decide +kernel) rfl⟩
theorem am_w_chr : Jvm.Cond.code yJ0_charAt_5068e cJ0_charAt_5068e 2 (some .char) ∈ am_TT ∧ Jvm.Cond.instanceMethod yJ0_charAt_5068e ∈ am_TT ∧ Jvm.Cond.selects RJ0 yJ0_charAt_5068e yJ0_charAt_5068e ∈ am_TT := ⟨am_mem (z := 569) (by decide +kernel) rfl, am_mem (z := 567) (by decide +kernel) rfl, am_mem (z := 568) (by decide +kernel) rfl⟩
theorem am_K.in {D : va_G} {aC : Nat → ClassId} {B0 : Nat} {sp : Nat → Nat} {xs : Nat → Int32} {L : Nat} {w : AWd} {s U : State} {H : Heap} {locs : List Loc} (hK : am_K D aC sp s) (hX : va_X (sp 9999) L xs s s.heap) (hbB : sp 9999 < B0) (hbs : sp 9999 < s.heap.size) (hG : am_Gs B0 sp s s.heap) (hW : am_WH D B0 sp aC xs L w H) (hS : va_S (fun q => B0 ≤ q) s.heap H locs) (hU : U.heap = H) (h : s.WarmedH U.vm) : am_In D aC B0 sp xs L w U := by
  have hk : ∀ a : Nat, a < s.heap.size → ¬ B0 ≤ a → H[a]? = s.heap[a]? := fun a h1 h2 => hS.2.1 a h1 h2
  subst hU
  exact ⟨hW, hK.warm h, (hX.kept (hk _ hbs (Nat.not_le.mpr hbB))).moved h.alike, hbB, hW.2.2.2.1, (hG.kept hk).moved h.alike⟩
section AMO
variable {p : Program} {l : Launch} {e : Env} {R : Room} {s : State} {m : MethodId} {args : Array Value} {below : List Frame} {meth : Method} {c : Code} {H : Heap} {locs : List Loc} {cells slots : Nat} {Q : State → Prop}
variable {D : va_G} {B0 : Nat} {sp : Nat → Nat} {aC : Nat → ClassId} {xs : Nat → Int32} {L : Nat} {r : AR} {d : Nat}
theorem am_strK {j : Nat} (hj : j < 4) (hG : am_Gs B0 sp s s.heap) (hS : va_S (fun q => B0 ≤ q) s.heap H locs) : ∃ cell : Cell, H[sp (9990 + j)]? = some cell ∧ cell.vm.isStatics = false ∧ s.vm.findClass RJ0 = some cell.cls := by
  obtain ⟨cell, h1, h2, h3⟩ := vk_recv hG.1 (i := j) hj hS
  exact ⟨cell, h1, h2, h3⟩
theorem am_runQ {mc ms : Nat} {free : Addr → Prop} {v : Value} {a : Array Value} {pc : Nat} {ls : Array Slot} {st0 rest : List Value} (hr : va_Run p l e R s m args below meth c H locs cells slots 0 0 (F0 m pc ls st0) rest (am_QS v a) (fun _ => False)) (kk : W p l e R s m args below meth c H locs cells slots Q (F0 m (pc + 3) ls (v :: rest))) : W p l e R s m args below meth c H locs cells slots Q (F0 m pc ls st0) := by
  intro T hT X
  obtain ⟨v1, st₀, t, T', L1, h0, X', hL, e1, e2, ⟨hv, hh⟩, st⟩ := hr T hT X
  cases hv
  obtain ⟨t2, a1, b1⟩ := kk T' (by rw [e1, hh, h0]) (Stand.forget X' (fun q h => (hL q h).elim))
  exact ⟨t2, st t2 a1, b1⟩
theorem am_o_invokevirtual {i : Nat} {nx a b z : Nat} {v : Value} {o pc : Nat} {lv : AL} {st : List Value} {w : AWd} {q : Option Prop} {t : ASt} {ls : Array Slot} (hSV : am_SV l B0 sp) (hG : am_Gs B0 sp s s.heap) (hrc : cells ≤ R.cells) (hrs : slots ≤ R.slots) (C : am_Cx p R s m args meth c D aC B0 sp xs L r d) (h6 : 6 ≤ d) (hc : am_chk r.2.1 r.2.2.2.2.1 pc (.invokevirtual i, nx, a, b, z, v) = true) (hx : ax (.invokevirtual i, nx, a, b, z, v) o (pc, lv, st, w) = some (q, t)) (hq : am_h q) (hW : am_WH D B0 sp aC xs L w H) (hS : va_S (fun q => B0 ≤ q) s.heap H locs) (hl : am_LH (am_ad B0 sp) ls r.2.2.1 lv) (kk : am_Kk p l e R s m args below meth c cells slots Q D B0 sp aC xs L r.2.2.1 w t) : W p l e R s m args below meth c H locs cells slots Q (F0 m pc ls (st.map (am_cv (am_ad B0 sp)))) := by
  obtain ⟨hx0, hb, hml, hr, hlk, hown, hts, hfr, hlo, hin, hK, hX, hbB, hB, hbs⟩ := C
  obtain ⟨hd, hn, hca⟩ := am_chk_inv hc
  have hn : nx = pc + 3 := hn
  subst hn
  have hca := Bool.and_eq_true_iff.mp hca
  obtain ⟨x9, -, hlw⟩ := am_lkM hca.1
  obtain ⟨q1, hx1, hq1⟩ := am_with_inv hx
  obtain ⟨hfew, hq2⟩ := hq1 hq
  have hmls := hl.1
  match b, hx1, hlw with
  | 12, hx1, hlw =>
    match st, hx1 with
    | .ref y :: r2, hx1 =>
      cases hx1
      obtain ⟨rfl, ho⟩ := hq2
      have h9 : am_ad B0 sp (9990 + o) = sp (9990 + o) := if_neg (by unfold am_NP; omega)
      have hrest : ((r2.map (am_cv (am_ad B0 sp))).map fun v => v.category).sum ≤ 8 := by
        rw [am_cvsum]
        have hfew : 1 + (r2.map fun v => v.category).sum ≤ 9 := hfew
        omega
      refine am_runQ (mc := 0) (ms := 0) (free := fun _ => False) (va_runV (As := []) (b := sp (9990 + o)) (C := RJ0) (n := 0) ⟨hx0, hb, hml, hown, hts⟩ (hSV.1 o ho) (cwV 0 hts (am_gV (am_mem hlw rfl) am_w_len.2.1 am_w_len.2.2.1 am_w_len.2.2.2 (am_gT am_w_len.1)) rfl rfl rfl ⟨rfl, by decide, by decide, by decide +kernel⟩ ⟨by show 5 + 1 ≤ _; omega, by show 8 + (1 + 11) + 180 ≤ _; omega⟩) ⟨am_PS.blind, am_strK ho hG hS, fun U hU hWm => ⟨rfl, by rw [hU]; exact (hG.kept (fun a h1 h2 => hS.2.1 a h1 h2)).moved hWm.alike⟩⟩ rfl rfl hmls (by show _ = _; rw [List.map_cons]; show Value.ref (am_ad B0 sp (9990 + o)) :: _ = _; rw [h9]; rfl) (lv_room hrest) hd ⟨by omega, by omega⟩) (kk H locs ls cells slots hW hS hl rfl rfl)
  | 13, hx1, hlw =>
    match st, hx1 with
    | .int i9 :: .ref y :: r2, hx1 =>
      cases hx1
      obtain ⟨rfl, ho, hi⟩ := hq2
      have h9 : am_ad B0 sp (9990 + o) = sp (9990 + o) := if_neg (by unfold am_NP; omega)
      have hrest : ((r2.map (am_cv (am_ad B0 sp))).map fun v => v.category).sum ≤ 8 := by
        rw [am_cvsum]
        have hfew : 1 + (1 + (r2.map fun v => v.category).sum) ≤ 9 := hfew
        omega
      refine am_runQ (mc := 0) (ms := 0) (free := fun _ => False) (va_runV (As := [.int i9]) (b := sp (9990 + o)) (C := RJ0) (n := 1) ⟨hx0, hb, hml, hown, hts⟩ (hSV.2 o i9 ho hi) (cwV 1 hts (am_gV (am_mem hlw rfl) am_w_chr.2.1 am_w_chr.2.2 am_w_len.2.2.2 (am_gT am_w_chr.1)) rfl rfl rfl ⟨rfl, by decide, by decide, by decide +kernel⟩ ⟨by show 5 + 1 ≤ _; omega, by show 8 + (2 + 11) + 180 ≤ _; omega⟩) ⟨am_PS.blind, am_strK ho hG hS, fun U hU hWm => ⟨rfl, by rw [hU]; exact (hG.kept (fun a h1 h2 => hS.2.1 a h1 h2)).moved hWm.alike⟩⟩ rfl rfl hmls (by show _ = _; rw [List.map_cons, List.map_cons]; show Value.int i9 :: Value.ref (am_ad B0 sp (9990 + o)) :: _ = _; rw [h9]; rfl) (lv_room hrest) hd ⟨by omega, by omega⟩) (kk H locs ls cells slots hW hS hl rfl rfl)
  | 0, hx1, _ => cases hx1
  | 1, hx1, _ => cases hx1
  | 2, hx1, _ => cases hx1
  | 3, hx1, _ => cases hx1
  | 4, hx1, _ => cases hx1
  | 5, hx1, _ => cases hx1
  | 6, hx1, _ => cases hx1
  | 7, hx1, _ => cases hx1
  | 8, hx1, _ => cases hx1
  | 9, hx1, _ => cases hx1
  | 10, hx1, _ => cases hx1
  | 11, hx1, _ => cases hx1
  | n + 14, hx1, _ => cases hx1
end AMO
