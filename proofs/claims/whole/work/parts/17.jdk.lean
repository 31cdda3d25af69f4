-- the JDK's String.length and String.charAt over the program's texts
def JB (sa sv : Nat → Nat) (A : Nat → Prop) (U : State) : Prop := TB U ∧ SB sa sv A U U.heap
def QS (r : Option Value) : Array Value → State → Outcome → State → Prop := fun _ st o t => o = .returned r ∧ t.heap = st.heap
def rmJ (k : Nat) : Room := { frames := k, cells := 0, slots := 0, locals := 40 * k }
theorem JB.blind {sa sv : Nat → Nat} {A : Nat → Prop} {av : List Value} : FrameBlind (va_Pc av (JB sa sv A)) := by
  intro a U g mk h
  obtain ⟨h1, h4, h5⟩ := h
  exact ⟨h1, fun w hw ho => va_Nw.same (u := U) (okW_on ho) rfl (h4 w hw ho), h5.calling g mk a⟩
theorem any_blind {av : List Value} : FrameBlind (va_Pc av (fun _ => True)) := fun _ _ _ _ h => h
section JDK
variable {p : Program} {l : Launch} {e : Env} {R : Room} {s : State} {m : MethodId} {args : Array Value} {below : List Frame} {meth : Method} {c : Code} {cells slots : Nat} {Z : State → Prop}
variable {sa sv : Nat → Nat} {A : Nat → Prop}
theorem call_st {H : Heap} {pc : Nat} {LS : Array Slot} {st0 rest : List Value} {a : Array Value} {r : Option Value} (hr : va_Run p l e R s m args below meth c H [] cells slots 0 0 (F0 m pc LS st0) rest (QS r a) (fun _ => False))
    (kk : W p l e R s m args below meth c H [] cells slots Z (F0 m (pc + 3) LS (r.toList ++ rest))) : W p l e R s m args below meth c H [] cells slots Z (F0 m pc LS st0) := by
  intro T hT X
  obtain ⟨v, st₀, t, T', L, h0, X', hL, e1, e2, ⟨hv, hh⟩, st⟩ := hr T hT X
  cases hv
  have hLn : L = [] := by
    cases L with
    | nil => rfl
    | cons q L => exact (hL q List.mem_cons_self).elim
  subst hLn
  obtain ⟨t2, a1, b1⟩ := kk T' (by rw [e1, hh, h0]) X'
  exact ⟨t2, st t2 a1, b1⟩
end JDK
theorem j_pay {s : State} {y : MethodName} {b : ByteArray} {n : Nat} {r : Option FieldType} (hT : TB s) {i : Nat} (hi : lw_tbl[i]? = some (.code y b n r)) : ∀ w ∈ [Cond.code y b n r], ∀ (a' : Array Value) (U : State), s.WarmedH U.vm → w.before a' U = true := by
  intro w hw a' U hW
  rw [List.mem_singleton.mp hw]
  exact (hT.warm hW).at hi rfl
theorem jc_439 : lw_tbl[439]? = some (.code yJ0_coder_7d493 cJ0_coder_7d493 1 (some .byte)) := by rfl
theorem jc_449 : lw_tbl[449]? = some (.code yJ0_isLatin1_aae02 cJ0_isLatin1_aae02 1 (some .boolean)) := by rfl
theorem jc_452 : lw_tbl[452]? = some (.code yJ1_charAt_3b067 cJ1_charAt_3b067 2 (some .char)) := by rfl
theorem jc_455 : lw_tbl[455]? = some (.code yJ0_checkIndex_df160 cJ0_checkIndex_df160 2 none) := by rfl
theorem jc_460 : lw_tbl[460]? = some (.code yJ3_checkIndex_8e157 cJ3_checkIndex_8e157 3 (some .int)) := by rfl
--BODY--
set_option maxHeartbeats 1000000 in
theorem j_coder {l : Launch} {sa sv : Nat → Nat} {A : Nat → Prop} {i : Nat} (hi : i < 6) : Met l yJ0_coder_7d493 [.code yJ0_coder_7d493 cJ0_coder_7d493 1 (some .byte)] (rmJ 0) (va_Pc [.ref (sa (i + 2))] (JB sa sv A)) (QS (some (.int 0))) 0 0 (fun _ => False) := by
  refine va_MetF (cc := cJ0_coder_7d493) (maxL := 1) (ret := (some .byte)) (by decide +kernel) rfl ?_
  intro p e s m args below meth c s₁ B hml hv
  obtain ⟨rfl, hT, hSB⟩ := hv
  have hx := B.exec
  have hb := B.bytes
  have hr := B.returns
  have hown : s.vm.findClass (yJ0_coder_7d493).cls = some m.cls := findClass_of_methodNamed B.named
  have hlocks := B.notSynchronized
  have hS : va_S A s.heap s.heap [] := va_S.rf
  have hl := lv_entry ([.ref (sa (i + 2))]) (n := 1) (Nat.le_of_eq rfl)
  rw [lg_entry_eq]
  generalize (lg_sl ([.ref (sa (i + 2))]) ++ List.replicate (1 - (lg_sl ([.ref (sa (i + 2))])).length) Slot.unset).toArray = ls at hl ⊢
  have hl : lv_has ls 1 [(0, .ref (sa (i + 2)))] := hl
  refine va_gets hx hb hSB.2.2.1 hS hown (hT.tin (i := 440) (w := .fieldLink "java/lang/String" 38 "java/lang/String" "COMPACT_STRINGS" "Z") (by decide +kernel)) (fun _ h => h) (by decide +kernel : decode cJ0_coder_7d493 0 = .ok (.getstatic 38, 3)) ?_
  refine lv_if_eq hx hb (tgt := 13) (by decide +kernel : decode cJ0_coder_7d493 3 = .ok (.ifCond .eq 10, 3)) rfl (fun h => absurd h (by decide)) (fun _ => ?_)
  refine lv_aload_n hx hb (by decide +kernel : decode cJ0_coder_7d493 6 = .ok (.aload_n 0, 1)) rfl (lv_at hl 0 rfl) ?_
  refine vk_getf hx hb (hSB.1.1 i hi).2.1 hS hown (hT.tin (i := 1297) (w := .fieldLink "java/lang/String" 15 "java/lang/String" "coder" "B") (by decide +kernel)) (fun _ h => h) (by decide +kernel : decode cJ0_coder_7d493 7 = .ok (.getfield 15, 3)) ?_
  refine lv_goto hx hb (tgt := 14) (by decide +kernel : decode cJ0_coder_7d493 10 = .ok (.goto 4, 3)) rfl ?_
  exact W.zret (ty := .byte) hx hb hr rfl (fun t ht hW => ⟨rfl, ht⟩) (fun _ h => by cases h) (by decide +kernel : decode cJ0_coder_7d493 14 = .ok (.ireturn, 1)) hlocks

set_option maxHeartbeats 1000000 in
theorem j_latin {l : Launch} {sa sv : Nat → Nat} {A : Nat → Prop} {i : Nat} (hi : i < 6) : Met l yJ0_isLatin1_aae02 [.code yJ0_isLatin1_aae02 cJ0_isLatin1_aae02 1 (some .boolean)] (rmJ 0) (va_Pc [.ref (sa (i + 2))] (JB sa sv A)) (QS (some (.int 1))) 0 0 (fun _ => False) := by
  refine va_MetF (cc := cJ0_isLatin1_aae02) (maxL := 1) (ret := (some .boolean)) (by decide +kernel) rfl ?_
  intro p e s m args below meth c s₁ B hml hv
  obtain ⟨rfl, hT, hSB⟩ := hv
  have hx := B.exec
  have hb := B.bytes
  have hr := B.returns
  have hown : s.vm.findClass (yJ0_isLatin1_aae02).cls = some m.cls := findClass_of_methodNamed B.named
  have hlocks := B.notSynchronized
  have hS : va_S A s.heap s.heap [] := va_S.rf
  have hl := lv_entry ([.ref (sa (i + 2))]) (n := 1) (Nat.le_of_eq rfl)
  rw [lg_entry_eq]
  generalize (lg_sl ([.ref (sa (i + 2))]) ++ List.replicate (1 - (lg_sl ([.ref (sa (i + 2))])).length) Slot.unset).toArray = ls at hl ⊢
  have hl : lv_has ls 1 [(0, .ref (sa (i + 2)))] := hl
  refine va_gets hx hb hSB.2.2.1 hS hown (hT.tin (i := 440) (w := .fieldLink "java/lang/String" 38 "java/lang/String" "COMPACT_STRINGS" "Z") (by decide +kernel)) (fun _ h => h) (by decide +kernel : decode cJ0_isLatin1_aae02 0 = .ok (.getstatic 38, 3)) ?_
  refine lv_if_eq hx hb (tgt := 17) (by decide +kernel : decode cJ0_isLatin1_aae02 3 = .ok (.ifCond .eq 14, 3)) rfl (fun h => absurd h (by decide)) (fun _ => ?_)
  refine lv_aload_n hx hb (by decide +kernel : decode cJ0_isLatin1_aae02 6 = .ok (.aload_n 0, 1)) rfl (lv_at hl 0 rfl) ?_
  refine vk_getf hx hb (hSB.1.1 i hi).2.1 hS hown (hT.tin (i := 1297) (w := .fieldLink "java/lang/String" 15 "java/lang/String" "coder" "B") (by decide +kernel)) (fun _ h => h) (by decide +kernel : decode cJ0_isLatin1_aae02 7 = .ok (.getfield 15, 3)) ?_
  refine lv_if_ne hx hb (tgt := 17) (by decide +kernel : decode cJ0_isLatin1_aae02 10 = .ok (.ifCond .ne 7, 3)) rfl (fun h => absurd rfl h) (fun _ => ?_)
  refine lv_iconst hx hb (by decide +kernel : decode cJ0_isLatin1_aae02 13 = .ok (.iconst 1, 1)) rfl ?_
  refine lv_goto hx hb (tgt := 18) (by decide +kernel : decode cJ0_isLatin1_aae02 14 = .ok (.goto 4, 3)) rfl ?_
  exact W.zret (ty := .boolean) hx hb hr (by decide +kernel) (fun t ht hW => ⟨rfl, ht⟩) (fun _ h => by cases h) (by decide +kernel : decode cJ0_isLatin1_aae02 18 = .ok (.ireturn, 1)) hlocks

set_option maxHeartbeats 1000000 in
theorem j_pre_n {l : Launch} {A : Nat → Prop} {x z : Int32} {t : Nat} (h0 : ¬ x < 0) (h1 : x < z) : Met l yJ3_checkIndex_8e157 [.code yJ3_checkIndex_8e157 cJ3_checkIndex_8e157 3 (some .int)] (rmJ 0) (va_Pc [.int x, .int z, .null] (fun _ => True)) (QS (some (.int x))) 0 0 (fun _ => False) := by
  refine va_MetF (cc := cJ3_checkIndex_8e157) (maxL := 3) (ret := (some .int)) (by decide +kernel) rfl ?_
  intro p e s m args below meth c s₁ B hml hv
  obtain ⟨rfl, -⟩ := hv
  have hx := B.exec
  have hb := B.bytes
  have hr := B.returns
  have hown : s.vm.findClass (yJ3_checkIndex_8e157).cls = some m.cls := findClass_of_methodNamed B.named
  have hlocks := B.notSynchronized
  have hS : va_S A s.heap s.heap [] := va_S.rf
  have hl := lv_entry ([.int x, .int z, .null]) (n := 3) (Nat.le_of_eq rfl)
  rw [lg_entry_eq]
  generalize (lg_sl ([.int x, .int z, .null]) ++ List.replicate (3 - (lg_sl ([.int x, .int z, .null])).length) Slot.unset).toArray = ls at hl ⊢
  have hl : lv_has ls 3 [(0, .int x), (1, .int z), (2, .null)] := hl
  refine lv_iload_n hx hb (by decide +kernel : decode cJ3_checkIndex_8e157 0 = .ok (.iload_n 0, 1)) rfl (lv_at hl 0 rfl) ?_
  refine lv_if_lt hx hb (tgt := 9) (by decide +kernel : decode cJ3_checkIndex_8e157 1 = .ok (.ifCond .lt 8, 3)) rfl (fun h => absurd h h0) (fun _ => ?_)
  refine lv_iload_n hx hb (by decide +kernel : decode cJ3_checkIndex_8e157 4 = .ok (.iload_n 0, 1)) rfl (lv_at hl 0 rfl) ?_
  refine lv_iload_n hx hb (by decide +kernel : decode cJ3_checkIndex_8e157 5 = .ok (.iload_n 1, 1)) rfl (lv_at hl 1 rfl) ?_
  refine lv_icmp_lt hx hb (tgt := 16) (by decide +kernel : decode cJ3_checkIndex_8e157 6 = .ok (.if_icmp .lt 10, 3)) rfl (fun _ => ?_) (fun h => absurd h1 h)
  refine lv_iload_n hx hb (by decide +kernel : decode cJ3_checkIndex_8e157 16 = .ok (.iload_n 0, 1)) rfl (lv_at hl 0 rfl) ?_
  exact W.iret hx hb hr (fun t ht hW => ⟨rfl, ht⟩) (fun _ h => by cases h) (by decide +kernel : decode cJ3_checkIndex_8e157 17 = .ok (.ireturn, 1)) hlocks

set_option maxHeartbeats 1000000 in
theorem j_pre_r {l : Launch} {A : Nat → Prop} {x z : Int32} {t : Nat} (h0 : ¬ x < 0) (h1 : x < z) : Met l yJ3_checkIndex_8e157 [.code yJ3_checkIndex_8e157 cJ3_checkIndex_8e157 3 (some .int)] (rmJ 0) (va_Pc [.int x, .int z, .ref t] (fun _ => True)) (QS (some (.int x))) 0 0 (fun _ => False) := by
  refine va_MetF (cc := cJ3_checkIndex_8e157) (maxL := 3) (ret := (some .int)) (by decide +kernel) rfl ?_
  intro p e s m args below meth c s₁ B hml hv
  obtain ⟨rfl, -⟩ := hv
  have hx := B.exec
  have hb := B.bytes
  have hr := B.returns
  have hown : s.vm.findClass (yJ3_checkIndex_8e157).cls = some m.cls := findClass_of_methodNamed B.named
  have hlocks := B.notSynchronized
  have hS : va_S A s.heap s.heap [] := va_S.rf
  have hl := lv_entry ([.int x, .int z, .ref t]) (n := 3) (Nat.le_of_eq rfl)
  rw [lg_entry_eq]
  generalize (lg_sl ([.int x, .int z, .ref t]) ++ List.replicate (3 - (lg_sl ([.int x, .int z, .ref t])).length) Slot.unset).toArray = ls at hl ⊢
  have hl : lv_has ls 3 [(0, .int x), (1, .int z), (2, .ref t)] := hl
  refine lv_iload_n hx hb (by decide +kernel : decode cJ3_checkIndex_8e157 0 = .ok (.iload_n 0, 1)) rfl (lv_at hl 0 rfl) ?_
  refine lv_if_lt hx hb (tgt := 9) (by decide +kernel : decode cJ3_checkIndex_8e157 1 = .ok (.ifCond .lt 8, 3)) rfl (fun h => absurd h h0) (fun _ => ?_)
  refine lv_iload_n hx hb (by decide +kernel : decode cJ3_checkIndex_8e157 4 = .ok (.iload_n 0, 1)) rfl (lv_at hl 0 rfl) ?_
  refine lv_iload_n hx hb (by decide +kernel : decode cJ3_checkIndex_8e157 5 = .ok (.iload_n 1, 1)) rfl (lv_at hl 1 rfl) ?_
  refine lv_icmp_lt hx hb (tgt := 16) (by decide +kernel : decode cJ3_checkIndex_8e157 6 = .ok (.if_icmp .lt 10, 3)) rfl (fun _ => ?_) (fun h => absurd h1 h)
  refine lv_iload_n hx hb (by decide +kernel : decode cJ3_checkIndex_8e157 16 = .ok (.iload_n 0, 1)) rfl (lv_at hl 0 rfl) ?_
  exact W.iret hx hb hr (fun t ht hW => ⟨rfl, ht⟩) (fun _ h => by cases h) (by decide +kernel : decode cJ3_checkIndex_8e157 17 = .ok (.ireturn, 1)) hlocks

set_option maxHeartbeats 1000000 in
theorem j_chk {l : Launch} {sa sv : Nat → Nat} {A : Nat → Prop} {x z : Int32} (h0 : ¬ x < 0) (h1 : x < z) : Met l yJ0_checkIndex_df160 [.code yJ0_checkIndex_df160 cJ0_checkIndex_df160 2 none] (rmJ 1) (va_Pc [.int x, .int z] (JB sa sv A)) (QS none) 0 0 (fun _ => False) := by
  refine va_MetF (cc := cJ0_checkIndex_df160) (maxL := 2) (ret := none) (by decide +kernel) rfl ?_
  intro p e s m args below meth c s₁ B hml hv
  obtain ⟨rfl, hT, hSB⟩ := hv
  have hx := B.exec
  have hb := B.bytes
  have hr := B.returns
  have hown : s.vm.findClass (yJ0_checkIndex_df160).cls = some m.cls := findClass_of_methodNamed B.named
  have hlocks := B.notSynchronized
  have hS : va_S A s.heap s.heap [] := va_S.rf
  have hl := lv_entry ([.int x, .int z]) (n := 2) (Nat.le_of_eq rfl)
  rw [lg_entry_eq]
  generalize (lg_sl ([.int x, .int z]) ++ List.replicate (2 - (lg_sl ([.int x, .int z])).length) Slot.unset).toArray = ls at hl ⊢
  have hl : lv_has ls 2 [(0, .int x), (1, .int z)] := hl
  have hcls : (yJ3_checkIndex_8e157).cls ≠ "java/lang/invoke/MethodHandle" ∧ (yJ3_checkIndex_8e157).cls ≠ "java/lang/invoke/VarHandle" := ⟨by decide +kernel, by decide +kernel⟩
  have hlen : ∀ sig, parseMethodDescriptor (yJ3_checkIndex_8e157).desc = some sig → 3 = sig.parameters.length := by
    intro sig hs
    have h9 : (parseMethodDescriptor (yJ3_checkIndex_8e157).desc).map (fun d => d.parameters.length) = some 3 := by decide +kernel
    rw [hs] at h9
    exact (Option.some.inj h9).symm
  refine lv_iload_n hx hb (by decide +kernel : decode cJ0_checkIndex_df160 0 = .ok (.iload_n 0, 1)) rfl (lv_at hl 0 rfl) ?_
  refine lv_iload_n hx hb (by decide +kernel : decode cJ0_checkIndex_df160 1 = .ok (.iload_n 1, 1)) rfl (lv_at hl 1 rfl) ?_
  rcases hSB.2.2.2 with hz | ⟨t, hz⟩
  · refine va_gets hx hb hz hS hown (hT.tin (i := 456) (w := .fieldLink "java/lang/String" 1053 "jdk/internal/util/Preconditions" "SIOOBE_FORMATTER" "Ljava/util/function/BiFunction;") (by decide +kernel)) (fun _ h => h) (by decide +kernel : decode cJ0_checkIndex_df160 2 = .ok (.getstatic 1053, 3)) ?_
    refine call_st (va_runS (Ts := []) (own := "java/lang/String") (As := [.int x, .int z, .null]) (rest := []) ⟨hx, hb, hml, hown, fun _ h => by cases h⟩ (j_pre_n (A := A) (t := 0) h0 h1)
      ⟨⟨rfl, rfl, Nat.le_refl _, by decide, j_pay hT jc_460, List.mem_singleton.mpr rfl, hT.at jc_460 rfl, hT.tin (i := 102) (by decide +kernel), hcls, hlen, hT.tin (i := 458) (by decide +kernel)⟩, hT.tin (i := 459) (by decide +kernel)⟩ ⟨any_blind, fun U _ _ => ⟨rfl, trivial⟩⟩ rfl rfl hl.1 rfl (lv_room (by decide)) (by decide +kernel : decode cJ0_checkIndex_df160 5 = .ok (.invokestatic 1059, 3)) ⟨Nat.zero_le _, Nat.zero_le _⟩) ?_
    refine lv_pop hx hb (by decide +kernel : decode cJ0_checkIndex_df160 8 = .ok (.pop, 1)) rfl ?_
    exact W.vret hx hb hr (fun t ht hW => ⟨rfl, ht⟩) (fun _ h => by cases h) (by decide +kernel : decode cJ0_checkIndex_df160 9 = .ok (.return_, 1)) hlocks
  · refine va_gets hx hb hz hS hown (hT.tin (i := 456) (w := .fieldLink "java/lang/String" 1053 "jdk/internal/util/Preconditions" "SIOOBE_FORMATTER" "Ljava/util/function/BiFunction;") (by decide +kernel)) (fun _ h => h) (by decide +kernel : decode cJ0_checkIndex_df160 2 = .ok (.getstatic 1053, 3)) ?_
    refine call_st (va_runS (Ts := []) (own := "java/lang/String") (As := [.int x, .int z, .ref t]) (rest := []) ⟨hx, hb, hml, hown, fun _ h => by cases h⟩ (j_pre_r (A := A) (t := t) h0 h1)
      ⟨⟨rfl, rfl, Nat.le_refl _, by decide, j_pay hT jc_460, List.mem_singleton.mpr rfl, hT.at jc_460 rfl, hT.tin (i := 102) (by decide +kernel), hcls, hlen, hT.tin (i := 458) (by decide +kernel)⟩, hT.tin (i := 459) (by decide +kernel)⟩ ⟨any_blind, fun U _ _ => ⟨rfl, trivial⟩⟩ rfl rfl hl.1 rfl (lv_room (by decide)) (by decide +kernel : decode cJ0_checkIndex_df160 5 = .ok (.invokestatic 1059, 3)) ⟨Nat.zero_le _, Nat.zero_le _⟩) ?_
    refine lv_pop hx hb (by decide +kernel : decode cJ0_checkIndex_df160 8 = .ok (.pop, 1)) rfl ?_
    exact W.vret hx hb hr (fun t ht hW => ⟨rfl, ht⟩) (fun _ h => by cases h) (by decide +kernel : decode cJ0_checkIndex_df160 9 = .ok (.return_, 1)) hlocks

set_option maxHeartbeats 1000000 in
theorem j_lch {l : Launch} {sa sv : Nat → Nat} {A : Nat → Prop} {i k : Nat} (hi : i < 6) (hk : k < lenS.getD i 0) : Met l yJ1_charAt_3b067 [.code yJ1_charAt_3b067 cJ1_charAt_3b067 2 (some .char)] (rmJ 2) (va_Pc [.ref (sv i), .int (Int32.ofInt (k : Int))] (JB sa sv A)) (QS (some (.int (Int32.ofInt (((bytS.getD i []).getD k 0).toInt))))) 0 0 (fun _ => False) := by
  refine va_MetF (cc := cJ1_charAt_3b067) (maxL := 2) (ret := (some .char)) (by decide +kernel) rfl ?_
  intro p e s m args below meth c s₁ B hml hv
  obtain ⟨rfl, hT, hSB⟩ := hv
  have hx := B.exec
  have hb := B.bytes
  have hr := B.returns
  have hown : s.vm.findClass (yJ1_charAt_3b067).cls = some m.cls := findClass_of_methodNamed B.named
  have hlocks := B.notSynchronized
  have hS : va_S A s.heap s.heap [] := va_S.rf
  have hl := lv_entry ([.ref (sv i), .int (Int32.ofInt (k : Int))]) (n := 2) (Nat.le_of_eq rfl)
  rw [lg_entry_eq]
  generalize (lg_sl ([.ref (sv i), .int (Int32.ofInt (k : Int))]) ++ List.replicate (2 - (lg_sl ([.ref (sv i), .int (Int32.ofInt (k : Int))])).length) Slot.unset).toArray = ls at hl ⊢
  have hl : lv_has ls 2 [(0, .ref (sv i)), (1, .int (Int32.ofInt (k : Int)))] := hl
  have hln : ∀ i, i < 6 → lenS.getD i 0 ≤ 100 := by decide +kernel
  have hl6 := hln i hi
  have hcls : (yJ0_checkIndex_df160).cls ≠ "java/lang/invoke/MethodHandle" ∧ (yJ0_checkIndex_df160).cls ≠ "java/lang/invoke/VarHandle" := ⟨by decide +kernel, by decide +kernel⟩
  have hlen : ∀ sig, parseMethodDescriptor (yJ0_checkIndex_df160).desc = some sig → 2 = sig.parameters.length := by
    intro sig hs
    have h9 : (parseMethodDescriptor (yJ0_checkIndex_df160).desc).map (fun d => d.parameters.length) = some 2 := by decide +kernel
    rw [hs] at h9
    exact (Option.some.inj h9).symm
  have h0 : ¬ Int32.ofInt (k : Int) < 0 := by rw [n32_0, n32_lt ⟨by omega, by omega⟩ ⟨by omega, by omega⟩]; omega
  have h1 : Int32.ofInt (k : Int) < Int32.ofNat (lenS.getD i 0) := by rw [← n32_nat, n32_lt ⟨by omega, by omega⟩ ⟨by omega, by omega⟩]; omega
  have hTv := (hSB.1.1 i hi).2.2.2
  refine lv_iload_n hx hb (by decide +kernel : decode cJ1_charAt_3b067 0 = .ok (.iload_n 1, 1)) rfl (lv_at hl 1 rfl) ?_
  refine lv_aload_n hx hb (by decide +kernel : decode cJ1_charAt_3b067 1 = .ok (.aload_n 0, 1)) rfl (lv_at hl 0 rfl) ?_
  refine va_tlen hx hb hTv hS rfl (by decide +kernel : decode cJ1_charAt_3b067 2 = .ok (.arraylength, 1)) ?_
  refine call_st (va_runS (Ts := []) (own := "java/lang/StringLatin1") (As := [.int (Int32.ofInt (k : Int)), .int (Int32.ofNat (lenS.getD i 0))]) (rest := []) ⟨hx, hb, hml, hown, fun _ h => by cases h⟩ (j_chk (sa := sa) (sv := sv) (A := A) h0 h1)
      ⟨⟨rfl, rfl, Nat.le_refl _, by decide, j_pay hT jc_455, List.mem_singleton.mpr rfl, hT.at jc_455 rfl, hT.tin (i := 100) (by decide +kernel), hcls, hlen, hT.tin (i := 453) (by decide +kernel)⟩, hT.tin (i := 454) (by decide +kernel)⟩ ⟨JB.blind, fun U hU hW => ⟨rfl, hT.warm hW, by rw [hU]; exact hSB.warm hW⟩⟩ rfl rfl hl.1 rfl (lv_room (by decide)) (by decide +kernel : decode cJ1_charAt_3b067 3 = .ok (.invokestatic 9, 3)) ⟨Nat.zero_le _, Nat.zero_le _⟩) ?_
  refine lv_aload_n hx hb (by decide +kernel : decode cJ1_charAt_3b067 6 = .ok (.aload_n 0, 1)) rfl (lv_at hl 0 rfl) ?_
  refine lv_iload_n hx hb (by decide +kernel : decode cJ1_charAt_3b067 7 = .ok (.iload_n 1, 1)) rfl (lv_at hl 1 rfl) ?_
  refine va_tb hx hb hTv hS (n32_vin (by omega) (by omega) (by omega)) rfl (by decide +kernel : decode cJ1_charAt_3b067 8 = .ok (.baload, 1)) ?_
  rw [n32_cl (by omega) (by omega), Int.toNat_natCast]
  refine lv_sipush hx hb (by decide +kernel : decode cJ1_charAt_3b067 9 = .ok (.sipush 255, 3)) rfl ?_
  refine lv_iand hx hb (by decide +kernel : decode cJ1_charAt_3b067 12 = .ok (.iand, 1)) ?_
  refine lv_i2c hx hb (by decide +kernel : decode cJ1_charAt_3b067 13 = .ok (.i2c, 1)) rfl ?_
  have hbb : ∀ i, i < 6 → ∀ k, k < lenS.getD i 0 → ((((bytS.getD i []).getD k 0) &&& (Int16.ofInt 255).toInt32).toUInt32 % 65536).toInt32 = Int32.ofInt (((bytS.getD i []).getD k 0).toInt) ∧ narrow .char (.int (Int32.ofInt (((bytS.getD i []).getD k 0).toInt))) = .int (Int32.ofInt (((bytS.getD i []).getD k 0).toInt)) := by decide +kernel
  obtain ⟨b1, b2⟩ := hbb i hi k hk
  rw [b1]
  exact W.zret (ty := .char) hx hb hr b2 (fun t ht hW => ⟨rfl, ht⟩) (fun _ h => by cases h) (by decide +kernel : decode cJ1_charAt_3b067 14 = .ok (.ireturn, 1)) hlocks

theorem hb_jb {D : va_G} {G : Nat → ClassId} {ad sa sv : Nat → Nat} {σ : SG} {U : State} (h : HB D G ad sa sv σ U) : JB sa sv (AA ad) U := ⟨h.2.2.1, h.2.2.2⟩

set_option maxHeartbeats 1000000 in
theorem j_len {l : Launch} {ad sa sv : Nat → Nat} {D : va_G} {G : Nat → ClassId} {d : Nat} {σ : SG} {i : Nat} (hi : i < 6) : Met l (mnm 205) [mcw 205] (rmD d) (va_Pc [.ref (sa (i + 2))] (HB D G ad sa sv σ)) (QB D G ad sa (.inl (lenS.getD i 0 : Int)) σ) 0 0 (AA ad) := by
  refine va_MetF (cc := mcd 205) (maxL := 1) (ret := some .int) (mnm_plain 205 (by decide)) rfl ?_
  intro p e s m args below meth c s₁ B hml hv
  obtain ⟨rfl, hH⟩ := hv
  have hP0 := hH.1
  obtain ⟨hT, hSB⟩ := hb_jb hH
  have hx := B.exec
  have hb : c.code = cJ0_length_8abf5 := B.bytes
  have hr := B.returns
  have hown : s.vm.findClass "java/lang/String" = some m.cls := findClass_of_methodNamed B.named
  have hlocks := B.notSynchronized
  have hS : va_S (AA ad) s.heap s.heap [] := va_S.rf
  have hl := lv_entry ([.ref (sa (i + 2))]) (n := 1) (Nat.le_of_eq rfl)
  rw [lg_entry_eq]
  generalize (lg_sl ([.ref (sa (i + 2))]) ++ List.replicate (1 - (lg_sl ([.ref (sa (i + 2))])).length) Slot.unset).toArray = ls at hl ⊢
  have hl : lv_has ls 1 [(0, .ref (sa (i + 2)))] := hl
  obtain ⟨cellB, hcB1, hcB2, hcB3⟩ := vk_recv (i := i) hSB.1 hi hS
  have hcls : (yJ0_coder_7d493).cls ≠ "java/lang/invoke/MethodHandle" ∧ (yJ0_coder_7d493).cls ≠ "java/lang/invoke/VarHandle" := ⟨by decide +kernel, by decide +kernel⟩
  have hlen : ∀ sig, parseMethodDescriptor (yJ0_coder_7d493).desc = some sig → 0 = sig.parameters.length := by
    intro sig hs
    have h9 : (parseMethodDescriptor (yJ0_coder_7d493).desc).map (fun d => d.parameters.length) = some 0 := by decide +kernel
    rw [hs] at h9
    exact (Option.some.inj h9).symm
  have hTv := (hSB.1.1 i hi).2.2.2
  refine lv_aload_n hx hb (by decide +kernel : decode cJ0_length_8abf5 0 = .ok (.aload_n 0, 1)) rfl (lv_at hl 0 rfl) ?_
  refine vk_getf hx hb (hSB.1.1 i hi).2.2.1 hS hown (hT.tin (i := 1296) (w := .fieldLink "java/lang/String" 9 "java/lang/String" "value" "[B") (by decide +kernel)) (fun _ h => h) (by decide +kernel : decode cJ0_length_8abf5 1 = .ok (.getfield 9, 3)) ?_
  refine va_tlen hx hb hTv hS rfl (by decide +kernel : decode cJ0_length_8abf5 4 = .ok (.arraylength, 1)) ?_
  refine lv_aload_n hx hb (by decide +kernel : decode cJ0_length_8abf5 5 = .ok (.aload_n 0, 1)) rfl (lv_at hl 0 rfl) ?_
  refine call_st (va_runV (Ts := []) (own := "java/lang/String") (C := "java/lang/String") (As := []) (rest := [.int (Int32.ofNat (lenS.getD i 0))]) ⟨hx, hb, hml, hown, fun _ h => by cases h⟩ (j_coder (sa := sa) (sv := sv) (A := AA ad) hi)
      ⟨⟨rfl, rfl, by show 0 + 1 ≤ d + 12; omega, by show 8 + (1 + 11) + 0 ≤ 64 * (d + 12); omega, j_pay hT jc_439, List.mem_singleton.mpr rfl, hT.at jc_439 rfl, hT.tin (i := 100) (by decide +kernel), hcls, hlen, hT.tin (i := 436) (by decide +kernel)⟩, hT.tin (i := 437) (by decide +kernel), hT.tin (i := 438) (by decide +kernel)⟩ ⟨JB.blind, ⟨cellB, hcB1, hcB2, hcB3⟩, fun U hU hW => ⟨rfl, hT.warm hW, by rw [hU]; exact hSB.warm hW⟩⟩ rfl rfl hl.1 rfl (lv_room (by show 1 + 0 ≤ 8; omega)) (by decide +kernel : decode cJ0_length_8abf5 6 = .ok (.invokevirtual 335, 3)) ⟨Nat.zero_le _, Nat.zero_le _⟩) ?_
  refine lv_ishr hx hb (by decide +kernel : decode cJ0_length_8abf5 9 = .ok (.ishr, 1)) ?_
  have hsh : ∀ i, i < 6 → Int32.ofNat (lenS.getD i 0) >>> ((0 : Int32) &&& 31) = Int32.ofInt (lenS.getD i 0 : Int) := by decide +kernel
  rw [hsh i hi]
  exact W.iret hx hb hr (fun t ht hW => ⟨⟨rfl, by rw [ht]; exact hP0⟩, va_S.F hS ht⟩) (fun _ h => by cases h) (by decide +kernel : decode cJ0_length_8abf5 10 = .ok (.ireturn, 1)) hlocks

set_option maxHeartbeats 1000000 in
theorem j_chr {l : Launch} {ad sa sv : Nat → Nat} {D : va_G} {G : Nat → ClassId} {d : Nat} {σ : SG} {i k : Nat} (hi : i < 6) (hk : k < lenS.getD i 0) : Met l (mnm 206) [mcw 206] (rmD d) (va_Pc [.ref (sa (i + 2)), .int (Int32.ofInt (k : Int))] (HB D G ad sa sv σ)) (QB D G ad sa (.inl (((bytS.getD i []).getD k 0).toInt)) σ) 0 0 (AA ad) := by
  refine va_MetF (cc := mcd 206) (maxL := 2) (ret := some .char) (mnm_plain 206 (by decide)) rfl ?_
  intro p e s m args below meth c s₁ B hml hv
  obtain ⟨rfl, hH⟩ := hv
  have hP0 := hH.1
  obtain ⟨hT, hSB⟩ := hb_jb hH
  have hx := B.exec
  have hb : c.code = cJ0_charAt_5068e := B.bytes
  have hr := B.returns
  have hown : s.vm.findClass "java/lang/String" = some m.cls := findClass_of_methodNamed B.named
  have hlocks := B.notSynchronized
  have hS : va_S (AA ad) s.heap s.heap [] := va_S.rf
  have hl := lv_entry ([.ref (sa (i + 2)), .int (Int32.ofInt (k : Int))]) (n := 2) (Nat.le_of_eq rfl)
  rw [lg_entry_eq]
  generalize (lg_sl ([.ref (sa (i + 2)), .int (Int32.ofInt (k : Int))]) ++ List.replicate (2 - (lg_sl ([.ref (sa (i + 2)), .int (Int32.ofInt (k : Int))])).length) Slot.unset).toArray = ls at hl ⊢
  have hl : lv_has ls 2 [(0, .ref (sa (i + 2))), (1, .int (Int32.ofInt (k : Int)))] := hl
  obtain ⟨cellB, hcB1, hcB2, hcB3⟩ := vk_recv (i := i) hSB.1 hi hS
  have hcls : (yJ0_isLatin1_aae02).cls ≠ "java/lang/invoke/MethodHandle" ∧ (yJ0_isLatin1_aae02).cls ≠ "java/lang/invoke/VarHandle" := ⟨by decide +kernel, by decide +kernel⟩
  have hlen : ∀ sig, parseMethodDescriptor (yJ0_isLatin1_aae02).desc = some sig → 0 = sig.parameters.length := by
    intro sig hs
    have h9 : (parseMethodDescriptor (yJ0_isLatin1_aae02).desc).map (fun d => d.parameters.length) = some 0 := by decide +kernel
    rw [hs] at h9
    exact (Option.some.inj h9).symm
  have hcls2 : (yJ1_charAt_3b067).cls ≠ "java/lang/invoke/MethodHandle" ∧ (yJ1_charAt_3b067).cls ≠ "java/lang/invoke/VarHandle" := ⟨by decide +kernel, by decide +kernel⟩
  have hlen2 : ∀ sig, parseMethodDescriptor (yJ1_charAt_3b067).desc = some sig → 2 = sig.parameters.length := by
    intro sig hs
    have h9 : (parseMethodDescriptor (yJ1_charAt_3b067).desc).map (fun d => d.parameters.length) = some 2 := by decide +kernel
    rw [hs] at h9
    exact (Option.some.inj h9).symm
  refine lv_aload_n hx hb (by decide +kernel : decode cJ0_charAt_5068e 0 = .ok (.aload_n 0, 1)) rfl (lv_at hl 0 rfl) ?_
  refine call_st (va_runV (Ts := []) (own := "java/lang/String") (C := "java/lang/String") (As := []) (rest := []) ⟨hx, hb, hml, hown, fun _ h => by cases h⟩ (j_latin (sa := sa) (sv := sv) (A := AA ad) hi)
      ⟨⟨rfl, rfl, by show 0 + 1 ≤ d + 12; omega, by show 8 + (1 + 11) + 0 ≤ 64 * (d + 12); omega, j_pay hT jc_449, List.mem_singleton.mpr rfl, hT.at jc_449 rfl, hT.tin (i := 100) (by decide +kernel), hcls, hlen, hT.tin (i := 446) (by decide +kernel)⟩, hT.tin (i := 447) (by decide +kernel), hT.tin (i := 448) (by decide +kernel)⟩ ⟨JB.blind, ⟨cellB, hcB1, hcB2, hcB3⟩, fun U hU hW => ⟨rfl, hT.warm hW, by rw [hU]; exact hSB.warm hW⟩⟩ rfl rfl hl.1 rfl (lv_room (by decide)) (by decide +kernel : decode cJ0_charAt_5068e 1 = .ok (.invokevirtual 492, 3)) ⟨Nat.zero_le _, Nat.zero_le _⟩) ?_
  refine lv_if_eq hx hb (tgt := 16) (by decide +kernel : decode cJ0_charAt_5068e 4 = .ok (.ifCond .eq 12, 3)) rfl (fun h => absurd h (by decide)) (fun _ => ?_)
  refine lv_aload_n hx hb (by decide +kernel : decode cJ0_charAt_5068e 7 = .ok (.aload_n 0, 1)) rfl (lv_at hl 0 rfl) ?_
  refine vk_getf hx hb (hSB.1.1 i hi).2.2.1 hS hown (hT.tin (i := 1296) (w := .fieldLink "java/lang/String" 9 "java/lang/String" "value" "[B") (by decide +kernel)) (fun _ h => h) (by decide +kernel : decode cJ0_charAt_5068e 8 = .ok (.getfield 9, 3)) ?_
  refine lv_iload_n hx hb (by decide +kernel : decode cJ0_charAt_5068e 11 = .ok (.iload_n 1, 1)) rfl (lv_at hl 1 rfl) ?_
  refine call_st (va_runS (Ts := []) (own := "java/lang/String") (As := [.ref (sv i), .int (Int32.ofInt (k : Int))]) (rest := []) ⟨hx, hb, hml, hown, fun _ h => by cases h⟩ (j_lch (sa := sa) (sv := sv) (A := AA ad) hi hk)
      ⟨⟨rfl, rfl, by show 2 + 1 ≤ d + 12; omega, by show 8 + (2 + 11) + 80 ≤ 64 * (d + 12); omega, j_pay hT jc_452, List.mem_singleton.mpr rfl, hT.at jc_452 rfl, hT.tin (i := 101) (by decide +kernel), hcls2, hlen2, hT.tin (i := 450) (by decide +kernel)⟩, hT.tin (i := 451) (by decide +kernel)⟩ ⟨JB.blind, fun U hU hW => ⟨rfl, hT.warm hW, by rw [hU]; exact hSB.warm hW⟩⟩ rfl rfl hl.1 rfl (lv_room (by decide)) (by decide +kernel : decode cJ0_charAt_5068e 12 = .ok (.invokestatic 495, 3)) ⟨Nat.zero_le _, Nat.zero_le _⟩) ?_
  have hbb : ∀ i, i < 6 → ∀ k, k < lenS.getD i 0 → narrow .char (.int (Int32.ofInt (((bytS.getD i []).getD k 0).toInt))) = .int (Int32.ofInt (((bytS.getD i []).getD k 0).toInt)) := by decide +kernel
  exact W.zret (ty := .char) hx hb hr (hbb i hi k hk) (fun t ht hW => ⟨⟨rfl, by rw [ht]; exact hP0⟩, va_S.F hS ht⟩) (fun _ h => by cases h) (by decide +kernel : decode cJ0_charAt_5068e 15 = .ok (.ireturn, 1)) hlocks

theorem bi_met {l : Launch} {ad sa sv : Nat → Nat} {D : va_G} {G : Nat → ClassId} : ∀ d y args σ r σ', biC y args σ r σ' → Met l (mnm y) [mcw y] (rmD d) (va_Pc (args.map (tv ad sa)) (HB D G ad sa sv σ)) (QB D G ad sa r σ') 0 0 (AA ad) := by
  intro d y args σ r σ' h
  rcases h with ⟨rfl, i, hi, rfl, rfl, rfl⟩ | ⟨rfl, i, k, hi, hk, rfl, rfl, rfl⟩
  · exact j_len hi
  · exact j_chr hi hk
