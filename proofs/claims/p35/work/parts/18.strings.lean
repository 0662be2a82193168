/-! the methods of the string constants -/
def am_rK (f : Nat) (k : Nat) : Room := { frames := f, cells := 0, slots := 0, locals := k }
def am_QV : Array Value → State → Outcome → State → Prop := fun _ st o t => o = .returned none ∧ t.heap = st.heap
section AMS
variable {p : Program} {l : Launch} {e : Env} {R : Room} {s : State} {m : MethodId} {args : Array Value} {below : List Frame} {meth : Method} {c : Code} {H : Heap} {locs : List Loc} {cells slots : Nat} {Q : State → Prop}
theorem am_runV {a : Array Value} {pc : Nat} {ls : Array Slot} {st0 rest : List Value} (hr : va_Run p l e R s m args below meth c H locs cells slots 0 0 (F0 m pc ls st0) rest (am_QV a) (fun _ => False)) (kk : W p l e R s m args below meth c H locs cells slots Q (F0 m (pc + 3) ls rest)) : W p l e R s m args below meth c H locs cells slots Q (F0 m pc ls st0) := by
  intro T hT X
  obtain ⟨v1, st₀, t, T', L1, h0, X', hL, e1, e2, ⟨hv, hh⟩, st⟩ := hr T hT X
  cases hv
  obtain ⟨t2, a1, b1⟩ := kk T' (by rw [e1, hh, h0]) (Stand.forget X' (fun q h => (hL q h).elim))
  exact ⟨t2, st t2 a1, b1⟩
end AMS
theorem am_ch_ok : ∀ j, j < 4 → ∀ k, k < (am_str j).length → ((((am_sB.getD j []).getD k 0) &&& 255).toUInt32 % 65536).toInt32 = (am_str j).getD k 0 ∧ narrow .char (.int ((am_str j).getD k 0)) = .int ((am_str j).getD k 0) := by decide +kernel
theorem am_sl_ok : ∀ j, j < 4 → am_sL.getD j 0 = (am_str j).length ∧ Int32.ofNat (am_sL.getD j 0) = am_slen j ∧ am_slen j >>> ((0 : Int32) &&& 31) = am_slen j ∧ (am_str j).length < 2 ^ 31 := by decide +kernel
set_option maxHeartbeats 4000000 in
theorem am_m_coder (l : Launch) {B0 : Nat} {sp : Nat → Nat} {j : Nat} (hj : j < 4) : Met l yJ0_coder_7d493 (am_wS yJ0_coder_7d493 cJ0_coder_7d493 1 (some .byte)) (am_rK 2 60) (am_PS B0 sp [.ref (sp (9990 + j))]) (am_QS (.int 0)) 0 0 (fun _ => False) := by
  refine Met.ofW (cc := cJ0_coder_7d493) (maxL := 1) (ret := (some .byte)) (by decide) rfl ?_
  intro p e s m args below meth c s₁ B hml hv
  obtain ⟨rfl, hG⟩ := hv
  have hx := B.exec
  have hb := B.bytes
  have hr := B.returns
  have hlk := B.notSynchronized
  have hts := atoms_spec (ws := (am_wS yJ0_coder_7d493 cJ0_coder_7d493 1 (some .byte))) B.pre
  have ht2 : ∀ w ∈ am_TT, w.before ([.ref (sp (9990 + j))] : List Value).toArray s = true := fun w hw => hts w (List.mem_cons_of_mem _ hw)
  have hown : s.vm.findClass RJ0 = some m.cls := findClass_of_methodNamed B.named
  have hS : va_S (fun q => B0 ≤ q) s.heap s.heap [] := va_S.rf
  have hl := lv_entry ([.ref (sp (9990 + j))]) (n := 1) (Nat.le_of_ble_eq_true rfl)
  rw [lg_entry_eq]
  generalize (lg_sl ([.ref (sp (9990 + j))]) ++ List.replicate (1 - (lg_sl ([.ref (sp (9990 + j))])).length) Slot.unset).toArray = ls at hl ⊢
  have hl : lv_has ls 1 [(0, .ref (sp (9990 + j)))] := hl
  refine va_gets (v := .int 1) hx hb (pc := 0) hG.2.1 hS hown (ht2 (Jvm.Cond.fieldLink RJ0 38 "java/lang/String" "COMPACT_STRINGS" "Z") (am_mem (z := 564) (by decide +kernel) rfl)) (fun _ h => h) (by decide +kernel) ?_
  refine lv_if_eq (tgt := 13) (off := 10) hx hb (pc := 3) (by decide +kernel) (by decide) (fun h => absurd h (by decide)) (fun _ => ?_)
  refine lv_aload_n (k := 0) hx hb (pc := 6) (by decide +kernel) rfl (lv_at hl 0 rfl) ?_
  refine vk_getf hx hb (pc := 7) (hG.1.1 j hj).2.1 hS hown (ht2 (Jvm.Cond.fieldLink RJ0 15 "java/lang/String" "coder" "B") (am_mem (z := 862) (by decide +kernel) rfl)) (fun _ h => h) (by decide +kernel) ?_
  refine lv_goto (tgt := 14) (off := 4) hx hb (pc := 10) (by decide +kernel) (by decide) ?_
  exact W.zret (ty := .byte) hx hb hr rfl (fun t ht hWm => ⟨rfl, ht⟩) (fun q h => by cases h) (by decide +kernel)
set_option maxHeartbeats 4000000 in
theorem am_m_isLatin1 (l : Launch) {B0 : Nat} {sp : Nat → Nat} {j : Nat} (hj : j < 4) : Met l yJ0_isLatin1_aae02 (am_wS yJ0_isLatin1_aae02 cJ0_isLatin1_aae02 1 (some .boolean)) (am_rK 2 60) (am_PS B0 sp [.ref (sp (9990 + j))]) (am_QS (.int 1)) 0 0 (fun _ => False) := by
  refine Met.ofW (cc := cJ0_isLatin1_aae02) (maxL := 1) (ret := (some .boolean)) (by decide) rfl ?_
  intro p e s m args below meth c s₁ B hml hv
  obtain ⟨rfl, hG⟩ := hv
  have hx := B.exec
  have hb := B.bytes
  have hr := B.returns
  have hlk := B.notSynchronized
  have hts := atoms_spec (ws := (am_wS yJ0_isLatin1_aae02 cJ0_isLatin1_aae02 1 (some .boolean))) B.pre
  have ht2 : ∀ w ∈ am_TT, w.before ([.ref (sp (9990 + j))] : List Value).toArray s = true := fun w hw => hts w (List.mem_cons_of_mem _ hw)
  have hown : s.vm.findClass RJ0 = some m.cls := findClass_of_methodNamed B.named
  have hS : va_S (fun q => B0 ≤ q) s.heap s.heap [] := va_S.rf
  have hl := lv_entry ([.ref (sp (9990 + j))]) (n := 1) (Nat.le_of_ble_eq_true rfl)
  rw [lg_entry_eq]
  generalize (lg_sl ([.ref (sp (9990 + j))]) ++ List.replicate (1 - (lg_sl ([.ref (sp (9990 + j))])).length) Slot.unset).toArray = ls at hl ⊢
  have hl : lv_has ls 1 [(0, .ref (sp (9990 + j)))] := hl
  refine va_gets (v := .int 1) hx hb (pc := 0) hG.2.1 hS hown (ht2 (Jvm.Cond.fieldLink RJ0 38 "java/lang/String" "COMPACT_STRINGS" "Z") (am_mem (z := 564) (by decide +kernel) rfl)) (fun _ h => h) (by decide +kernel) ?_
  refine lv_if_eq (tgt := 17) (off := 14) hx hb (pc := 3) (by decide +kernel) (by decide) (fun h => absurd h (by decide)) (fun _ => ?_)
  refine lv_aload_n (k := 0) hx hb (pc := 6) (by decide +kernel) rfl (lv_at hl 0 rfl) ?_
  refine vk_getf hx hb (pc := 7) (hG.1.1 j hj).2.1 hS hown (ht2 (Jvm.Cond.fieldLink RJ0 15 "java/lang/String" "coder" "B") (am_mem (z := 862) (by decide +kernel) rfl)) (fun _ h => h) (by decide +kernel) ?_
  refine lv_if_ne (tgt := 17) (off := 7) hx hb (pc := 10) (by decide +kernel) (by decide) (fun h => absurd rfl h) (fun _ => ?_)
  refine lv_iconst (n := 1) (v := 1) hx hb (pc := 13) (by decide +kernel) (by decide) ?_
  refine lv_goto (tgt := 18) (off := 4) hx hb (pc := 14) (by decide +kernel) (by decide) ?_
  exact W.zret (ty := .boolean) hx hb hr rfl (fun t ht hWm => ⟨rfl, ht⟩) (fun q h => by cases h) (by decide +kernel)
set_option maxHeartbeats 4000000 in
theorem am_m_pre (l : Launch) {B0 : Nat} {sp : Nat → Nat} {i : Int32} {n : Nat} {v : Value} (hn : n < 2 ^ 31) (hi : vp_in i n) (hv : (∃ t, v = .ref t) ∨ v = .null) : Met l yJ3_checkIndex_8e157 (am_wS yJ3_checkIndex_8e157 cJ3_checkIndex_8e157 3 (some .int)) (am_rK 1 20) (am_PS B0 sp [.int i, .int (Int32.ofNat n), v]) (am_QS (.int i)) 0 0 (fun _ => False) := by
  refine Met.ofW (cc := cJ3_checkIndex_8e157) (maxL := 3) (ret := (some .int)) (by decide) rfl ?_
  intro p e s m args below meth c s₁ B hml hv9
  obtain ⟨rfl, hG⟩ := hv9
  have hx := B.exec
  have hb := B.bytes
  have hr := B.returns
  have hlk := B.notSynchronized
  obtain ⟨k, hk, rfl⟩ := nI_of (x := i) (fun h => hi (Or.inl h))
  have hkn : k < n := by
    have := Nat.not_le.mp (fun h => hi (Or.inr h))
    rw [nI_clamp hk] at this
    exact this
  have h0 : ¬ nI k < 0 := fun h => hi (Or.inl h)
  have h1 : nI k < Int32.ofNat n := nI_lt hkn hn
  have hl : ∃ ls : Array Slot, entryFrame m ([.int (nI k), .int (Int32.ofNat n), v] : List Value).toArray 3 = F0 m 0 ls [] ∧ lv_has ls 3 [(0, .int (nI k)), (1, .int (Int32.ofNat n))] := by
    rcases hv with ⟨t, rfl⟩ | rfl
    · exact ⟨_, lg_entry_eq _ _ _, (fun h => ⟨h.1, h.2.1, fun q hq => h.2.2 q (by simp [lv_args, Value.category] at hq ⊢; rcases hq with rfl | rfl <;> simp)⟩) (lv_entry ([.int (nI k), .int (Int32.ofNat n), .ref t]) (n := 3) (Nat.le_of_ble_eq_true rfl))⟩
    · exact ⟨_, lg_entry_eq _ _ _, (fun h => ⟨h.1, h.2.1, fun q hq => h.2.2 q (by simp [lv_args, Value.category] at hq ⊢; rcases hq with rfl | rfl <;> simp)⟩) (lv_entry ([.int (nI k), .int (Int32.ofNat n), .null]) (n := 3) (Nat.le_of_ble_eq_true rfl))⟩
  obtain ⟨ls, he, hl⟩ := hl
  rw [he]
  refine lv_iload_n (k := 0) hx hb (pc := 0) (by decide +kernel) rfl (lv_at hl 0 rfl) ?_
  refine lv_if_lt (tgt := 9) (off := 8) hx hb (pc := 1) (by decide +kernel) (by decide) (fun h => absurd h h0) (fun _ => ?_)
  refine lv_iload_n (k := 0) hx hb (pc := 4) (by decide +kernel) rfl (lv_at hl 0 rfl) ?_
  refine lv_iload_n (k := 1) hx hb (pc := 5) (by decide +kernel) rfl (lv_at hl 1 rfl) ?_
  refine lv_icmp_lt (tgt := 16) (off := 10) hx hb (pc := 6) (by decide +kernel) (by decide) (fun _ => ?_) (fun h => absurd h1 h)
  refine lv_iload_n (k := 0) hx hb (pc := 16) (by decide +kernel) rfl (lv_at hl 0 rfl) ?_
  exact W.iret hx hb hr (fun t ht hWm => ⟨rfl, ht⟩) (fun q h => by cases h) (by decide +kernel)
set_option maxHeartbeats 4000000 in
theorem am_m_chk (l : Launch) {B0 : Nat} {sp : Nat → Nat} {i : Int32} {n : Nat} (hn : n < 2 ^ 31) (hi : vp_in i n) : Met l yJ0_checkIndex_df160 (am_wS yJ0_checkIndex_df160 cJ0_checkIndex_df160 2 none) (am_rK 2 60) (am_PS B0 sp [.int i, .int (Int32.ofNat n)]) am_QV 0 0 (fun _ => False) := by
  refine Met.ofW (cc := cJ0_checkIndex_df160) (maxL := 2) (ret := none) (by decide) rfl ?_
  intro p e s m args below meth c s₁ B hml hv
  obtain ⟨rfl, hG⟩ := hv
  have hx := B.exec
  have hb := B.bytes
  have hr := B.returns
  have hlk := B.notSynchronized
  have hts := atoms_spec (ws := (am_wS yJ0_checkIndex_df160 cJ0_checkIndex_df160 2 none)) B.pre
  have ht2 : ∀ w ∈ am_TT, w.before ([.int i, .int (Int32.ofNat n)] : List Value).toArray s = true := fun w hw => hts w (List.mem_cons_of_mem _ hw)
  have hown : s.vm.findClass RJ0 = some m.cls := findClass_of_methodNamed B.named
  have hS : va_S (fun q => B0 ≤ q) s.heap s.heap [] := va_S.rf
  have hl := lv_entry ([.int i, .int (Int32.ofNat n)]) (n := 2) (Nat.le_of_ble_eq_true rfl)
  rw [lg_entry_eq]
  generalize (lg_sl ([.int i, .int (Int32.ofNat n)]) ++ List.replicate (2 - (lg_sl ([.int i, .int (Int32.ofNat n)])).length) Slot.unset).toArray = ls at hl ⊢
  have hl : lv_has ls 2 [(0, .int i), (1, .int (Int32.ofNat n))] := hl
  refine lv_iload_n (k := 0) hx hb (pc := 0) (by decide +kernel) rfl (lv_at hl 0 rfl) ?_
  refine lv_iload_n (k := 1) hx hb (pc := 1) (by decide +kernel) rfl (lv_at hl 1 rfl) ?_
  have hq : ∃ v : Value, ((∃ t, v = .ref t) ∨ v = .null) ∧ va_Z "jdk/internal/util/Preconditions" "SIOOBE_FORMATTER" "Ljava/util/function/BiFunction;" v (fun q => B0 ≤ q) s s.heap := by
    rcases hG.2.2 with h | ⟨t, h⟩
    · exact ⟨_, Or.inr rfl, h⟩
    · exact ⟨_, Or.inl ⟨t, rfl⟩, h⟩
  obtain ⟨v, hv, hZ⟩ := hq
  refine va_gets (v := v) hx hb (pc := 2) hZ hS hown (ht2 (Jvm.Cond.fieldLink RJ0 1053 "jdk/internal/util/Preconditions" "SIOOBE_FORMATTER" "Ljava/util/function/BiFunction;") (am_mem (z := 580) (by decide +kernel) rfl)) (fun _ h => h) (by decide +kernel) ?_
  refine am_runQ (mc := 0) (ms := 0) (free := fun _ => False) (va_runS (As := [.int i, .int (Int32.ofNat n), v]) (n := 3) ⟨hx, hb, hml, hown, ht2⟩ (am_m_pre l hn hi hv) (va_cwS 3 ht2 (am_gS (show Jvm.Cond.methodLink RJ0 1059 yJ3_checkIndex_8e157 ∈ am_TT from (am_mem (z := 582) (by decide +kernel) rfl)) (am_mem (z := 583) (by decide +kernel) rfl) (am_mem (z := 37) (by decide +kernel) rfl) (am_gT (am_mem (z := 584) (by decide +kernel) rfl))) rfl rfl rfl ⟨by decide, by decide, by decide +kernel⟩ ⟨Nat.le_of_ble_eq_true rfl, Nat.le_of_ble_eq_true rfl⟩) ⟨am_PS.blind, fun U hU hWm => ⟨rfl, by rw [hU]; exact hG.moved hWm.alike⟩⟩ rfl rfl hl.1 rfl (lv_room (Nat.le_of_ble_eq_true rfl)) (show decode cJ0_checkIndex_df160 5 = .ok (.invokestatic 1059, 3) by decide +kernel) ⟨Nat.zero_le _, Nat.zero_le _⟩) ?_
  refine lv_pop hx hb (pc := 8) (by decide +kernel) rfl ?_
  exact W.vret hx hb hr (fun t ht hWm => ⟨rfl, ht⟩) (fun q h => by cases h) (by decide +kernel)
set_option maxHeartbeats 4000000 in
theorem am_m_c1 (l : Launch) {B0 : Nat} {sp : Nat → Nat} {j : Nat} {i : Int32} (hj : j < 4) (hi : vp_in i (am_str j).length) : Met l yJ1_charAt_3b067 (am_wS yJ1_charAt_3b067 cJ1_charAt_3b067 2 (some .char)) (am_rK 4 140) (am_PS B0 sp [.ref (sp (9980 + j)), .int i]) (am_QS (.int ((am_str j).getD i.toNatClampNeg 0))) 0 0 (fun _ => False) := by
  refine Met.ofW (cc := cJ1_charAt_3b067) (maxL := 2) (ret := (some .char)) (by decide) rfl ?_
  intro p e s m args below meth c s₁ B hml hv
  obtain ⟨rfl, hG⟩ := hv
  have hx := B.exec
  have hb := B.bytes
  have hr := B.returns
  have hlk := B.notSynchronized
  have hts := atoms_spec (ws := (am_wS yJ1_charAt_3b067 cJ1_charAt_3b067 2 (some .char))) B.pre
  have ht2 : ∀ w ∈ am_TT, w.before ([.ref (sp (9980 + j)), .int i] : List Value).toArray s = true := fun w hw => hts w (List.mem_cons_of_mem _ hw)
  have hown : s.vm.findClass RJ1 = some m.cls := findClass_of_methodNamed B.named
  have hS : va_S (fun q => B0 ≤ q) s.heap s.heap [] := va_S.rf
  have hl := lv_entry ([.ref (sp (9980 + j)), .int i]) (n := 2) (Nat.le_of_ble_eq_true rfl)
  rw [lg_entry_eq]
  generalize (lg_sl ([.ref (sp (9980 + j)), .int i]) ++ List.replicate (2 - (lg_sl ([.ref (sp (9980 + j)), .int i])).length) Slot.unset).toArray = ls at hl ⊢
  have hl : lv_has ls 2 [(0, .ref (sp (9980 + j))), (1, .int i)] := hl
  obtain ⟨hsl, hsn, -, hs31⟩ := am_sl_ok j hj
  have hT := (hG.1.1 j hj).2.2.2
  have hin : vp_in i (am_sL.getD j 0) := by rw [hsl]; exact hi
  refine lv_iload_n (k := 1) hx hb (pc := 0) (by decide +kernel) rfl (lv_at hl 1 rfl) ?_
  refine lv_aload_n (k := 0) hx hb (pc := 1) (by decide +kernel) rfl (lv_at hl 0 rfl) ?_
  refine va_tlen (v := Int32.ofNat (am_sL.getD j 0)) hx hb (pc := 2) hT hS rfl (by decide +kernel) ?_
  refine am_runV (va_runS (As := [.int i, .int (Int32.ofNat (am_sL.getD j 0))]) (n := 2) ⟨hx, hb, hml, hown, ht2⟩ (am_m_chk l (by rw [hsl]; exact hs31) hin) (va_cwS 2 ht2 (am_gS (show Jvm.Cond.methodLink RJ1 9 yJ0_checkIndex_df160 ∈ am_TT from (am_mem (z := 577) (by decide +kernel) rfl)) (am_mem (z := 578) (by decide +kernel) rfl) (am_mem (z := 35) (by decide +kernel) rfl) (am_gT (am_mem (z := 579) (by decide +kernel) rfl))) rfl rfl rfl ⟨by decide, by decide, by decide +kernel⟩ ⟨Nat.le_of_ble_eq_true rfl, Nat.le_of_ble_eq_true rfl⟩) ⟨am_PS.blind, fun U hU hWm => ⟨rfl, by rw [hU]; exact hG.moved hWm.alike⟩⟩ rfl rfl hl.1 rfl (lv_room (Nat.le_of_ble_eq_true rfl)) (show decode cJ1_charAt_3b067 3 = .ok (.invokestatic 9, 3) by decide +kernel) ⟨Nat.zero_le _, Nat.zero_le _⟩) ?_
  refine lv_aload_n (k := 0) hx hb (pc := 6) (by decide +kernel) rfl (lv_at hl 0 rfl) ?_
  refine lv_iload_n (k := 1) hx hb (pc := 7) (by decide +kernel) rfl (lv_at hl 1 rfl) ?_
  refine va_tb hx hb (pc := 8) hT hS hin rfl (by decide +kernel) ?_
  refine lv_sipush (n := 255) (v := 255) hx hb (pc := 9) (by decide +kernel) (by decide) ?_
  refine lv_iand hx hb (pc := 12) (by decide +kernel) ?_
  have hlt : i.toNatClampNeg < (am_str j).length := Nat.not_le.mp fun h => hi (Or.inr h)
  obtain ⟨hc1, hc2⟩ := am_ch_ok j hj _ hlt
  refine lv_i2c (v := (am_str j).getD i.toNatClampNeg 0) hx hb (pc := 13) (by decide +kernel) hc1 ?_
  exact W.zret (ty := .char) hx hb hr hc2 (fun t ht hWm => ⟨rfl, ht⟩) (fun q h => by cases h) (by decide +kernel)
set_option maxHeartbeats 4000000 in
theorem am_m_len (l : Launch) {B0 : Nat} {sp : Nat → Nat} {j : Nat} (hj : j < 4) : Met l yJ0_length_8abf5 (am_wS yJ0_length_8abf5 cJ0_length_8abf5 1 (some .int)) am_rS (am_PS B0 sp [.ref (sp (9990 + j))]) (am_QS (.int (am_slen j))) 0 0 (fun _ => False) := by
  refine Met.ofW (cc := cJ0_length_8abf5) (maxL := 1) (ret := (some .int)) (by decide) rfl ?_
  intro p e s m args below meth c s₁ B hml hv
  obtain ⟨rfl, hG⟩ := hv
  have hx := B.exec
  have hb := B.bytes
  have hr := B.returns
  have hlk := B.notSynchronized
  have hts := atoms_spec (ws := (am_wS yJ0_length_8abf5 cJ0_length_8abf5 1 (some .int))) B.pre
  have ht2 : ∀ w ∈ am_TT, w.before ([.ref (sp (9990 + j))] : List Value).toArray s = true := fun w hw => hts w (List.mem_cons_of_mem _ hw)
  have hown : s.vm.findClass RJ0 = some m.cls := findClass_of_methodNamed B.named
  have hS : va_S (fun q => B0 ≤ q) s.heap s.heap [] := va_S.rf
  have hl := lv_entry ([.ref (sp (9990 + j))]) (n := 1) (Nat.le_of_ble_eq_true rfl)
  rw [lg_entry_eq]
  generalize (lg_sl ([.ref (sp (9990 + j))]) ++ List.replicate (1 - (lg_sl ([.ref (sp (9990 + j))])).length) Slot.unset).toArray = ls at hl ⊢
  have hl : lv_has ls 1 [(0, .ref (sp (9990 + j)))] := hl
  obtain ⟨hsl, hsn, hsh, hs31⟩ := am_sl_ok j hj
  have hT := (hG.1.1 j hj).2.2.2
  refine lv_aload_n (k := 0) hx hb (pc := 0) (by decide +kernel) rfl (lv_at hl 0 rfl) ?_
  refine vk_getf hx hb (pc := 1) (hG.1.1 j hj).2.2.1 hS hown (ht2 (Jvm.Cond.fieldLink RJ0 9 "java/lang/String" "value" "[B") (am_mem (z := 861) (by decide +kernel) rfl)) (fun _ h => h) (by decide +kernel) ?_
  refine va_tlen (v := am_slen j) hx hb (pc := 4) hT hS hsn (by decide +kernel) ?_
  refine lv_aload_n (k := 0) hx hb (pc := 5) (by decide +kernel) rfl (lv_at hl 0 rfl) ?_
  refine am_runQ (mc := 0) (ms := 0) (free := fun _ => False) (va_runV (As := []) (b := sp (9990 + j)) (C := RJ0) (n := 0) ⟨hx, hb, hml, hown, ht2⟩ (am_m_coder l hj) (cwV 0 ht2 (am_gV (show Jvm.Cond.methodLink RJ0 335 yJ0_coder_7d493 ∈ am_TT from (am_mem (z := 560) (by decide +kernel) rfl)) (am_mem (z := 561) (by decide +kernel) rfl) (am_mem (z := 562) (by decide +kernel) rfl) (am_mem (z := 35) (by decide +kernel) rfl) (am_gT (am_mem (z := 563) (by decide +kernel) rfl))) rfl rfl rfl ⟨rfl, by decide, by decide, by decide +kernel⟩ ⟨Nat.le_of_ble_eq_true rfl, Nat.le_of_ble_eq_true rfl⟩) ⟨am_PS.blind, am_strK hj hG hS, fun U hU hWm => ⟨rfl, by rw [hU]; exact hG.moved hWm.alike⟩⟩ rfl rfl hl.1 rfl (lv_room (Nat.le_of_ble_eq_true rfl)) (show decode cJ0_length_8abf5 6 = .ok (.invokevirtual 335, 3) by decide +kernel) ⟨Nat.zero_le _, Nat.zero_le _⟩) ?_
  refine lv_ishr hx hb (pc := 9) (by decide +kernel) ?_
  rw [hsh]
  exact W.iret hx hb hr (fun t ht hWm => ⟨rfl, ht⟩) (fun q h => by cases h) (by decide +kernel)
set_option maxHeartbeats 4000000 in
theorem am_m_chr (l : Launch) {B0 : Nat} {sp : Nat → Nat} {j : Nat} {i : Int32} (hj : j < 4) (hi : vp_in i (am_str j).length) : Met l yJ0_charAt_5068e (am_wS yJ0_charAt_5068e cJ0_charAt_5068e 2 (some .char)) am_rS (am_PS B0 sp [.ref (sp (9990 + j)), .int i]) (am_QS (.int ((am_str j).getD i.toNatClampNeg 0))) 0 0 (fun _ => False) := by
  refine Met.ofW (cc := cJ0_charAt_5068e) (maxL := 2) (ret := (some .char)) (by decide) rfl ?_
  intro p e s m args below meth c s₁ B hml hv
  obtain ⟨rfl, hG⟩ := hv
  have hx := B.exec
  have hb := B.bytes
  have hr := B.returns
  have hlk := B.notSynchronized
  have hts := atoms_spec (ws := (am_wS yJ0_charAt_5068e cJ0_charAt_5068e 2 (some .char))) B.pre
  have ht2 : ∀ w ∈ am_TT, w.before ([.ref (sp (9990 + j)), .int i] : List Value).toArray s = true := fun w hw => hts w (List.mem_cons_of_mem _ hw)
  have hown : s.vm.findClass RJ0 = some m.cls := findClass_of_methodNamed B.named
  have hS : va_S (fun q => B0 ≤ q) s.heap s.heap [] := va_S.rf
  have hl := lv_entry ([.ref (sp (9990 + j)), .int i]) (n := 2) (Nat.le_of_ble_eq_true rfl)
  rw [lg_entry_eq]
  generalize (lg_sl ([.ref (sp (9990 + j)), .int i]) ++ List.replicate (2 - (lg_sl ([.ref (sp (9990 + j)), .int i])).length) Slot.unset).toArray = ls at hl ⊢
  have hl : lv_has ls 2 [(0, .ref (sp (9990 + j))), (1, .int i)] := hl
  refine lv_aload_n (k := 0) hx hb (pc := 0) (by decide +kernel) rfl (lv_at hl 0 rfl) ?_
  refine am_runQ (mc := 0) (ms := 0) (free := fun _ => False) (va_runV (As := []) (b := sp (9990 + j)) (C := RJ0) (n := 0) ⟨hx, hb, hml, hown, ht2⟩ (am_m_isLatin1 l hj) (cwV 0 ht2 (am_gV (show Jvm.Cond.methodLink RJ0 492 yJ0_isLatin1_aae02 ∈ am_TT from (am_mem (z := 570) (by decide +kernel) rfl)) (am_mem (z := 571) (by decide +kernel) rfl) (am_mem (z := 572) (by decide +kernel) rfl) (am_mem (z := 35) (by decide +kernel) rfl) (am_gT (am_mem (z := 573) (by decide +kernel) rfl))) rfl rfl rfl ⟨rfl, by decide, by decide, by decide +kernel⟩ ⟨Nat.le_of_ble_eq_true rfl, Nat.le_of_ble_eq_true rfl⟩) ⟨am_PS.blind, am_strK hj hG hS, fun U hU hWm => ⟨rfl, by rw [hU]; exact hG.moved hWm.alike⟩⟩ rfl rfl hl.1 rfl (lv_room (Nat.le_of_ble_eq_true rfl)) (show decode cJ0_charAt_5068e 1 = .ok (.invokevirtual 492, 3) by decide +kernel) ⟨Nat.zero_le _, Nat.zero_le _⟩) ?_
  refine lv_if_eq (tgt := 16) (off := 12) hx hb (pc := 4) (by decide +kernel) (by decide) (fun h => absurd h (by decide)) (fun _ => ?_)
  refine lv_aload_n (k := 0) hx hb (pc := 7) (by decide +kernel) rfl (lv_at hl 0 rfl) ?_
  refine vk_getf hx hb (pc := 8) (hG.1.1 j hj).2.2.1 hS hown (ht2 (Jvm.Cond.fieldLink RJ0 9 "java/lang/String" "value" "[B") (am_mem (z := 861) (by decide +kernel) rfl)) (fun _ h => h) (by decide +kernel) ?_
  refine lv_iload_n (k := 1) hx hb (pc := 11) (by decide +kernel) rfl (lv_at hl 1 rfl) ?_
  refine am_runQ (mc := 0) (ms := 0) (free := fun _ => False) (va_runS (As := [.ref (sp (9980 + j)), .int i]) (n := 2) ⟨hx, hb, hml, hown, ht2⟩ (am_m_c1 l hj hi) (va_cwS 2 ht2 (am_gS (show Jvm.Cond.methodLink RJ0 495 yJ1_charAt_3b067 ∈ am_TT from (am_mem (z := 574) (by decide +kernel) rfl)) (am_mem (z := 575) (by decide +kernel) rfl) (am_mem (z := 36) (by decide +kernel) rfl) (am_gT (am_mem (z := 576) (by decide +kernel) rfl))) rfl rfl rfl ⟨by decide, by decide, by decide +kernel⟩ ⟨Nat.le_of_ble_eq_true rfl, Nat.le_of_ble_eq_true rfl⟩) ⟨am_PS.blind, fun U hU hWm => ⟨rfl, by rw [hU]; exact hG.moved hWm.alike⟩⟩ rfl rfl hl.1 rfl (lv_room (Nat.le_of_ble_eq_true rfl)) (show decode cJ0_charAt_5068e 12 = .ok (.invokestatic 495, 3) by decide +kernel) ⟨Nat.zero_le _, Nat.zero_le _⟩) ?_
  have hlt : i.toNatClampNeg < (am_str j).length := Nat.not_le.mp fun h => hi (Or.inr h)
  obtain ⟨hc1, hc2⟩ := am_ch_ok j hj _ hlt
  exact W.zret (ty := .char) hx hb hr hc2 (fun t ht hWm => ⟨rfl, ht⟩) (fun q h => by cases h) (by decide +kernel)
theorem am_sv (l : Launch) (B0 : Nat) (sp : Nat → Nat) : am_SV l B0 sp := ⟨fun j hj => am_m_len l hj, fun j i hj hi => am_m_chr l hj hi⟩
