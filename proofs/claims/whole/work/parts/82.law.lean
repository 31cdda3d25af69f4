-- the law from its entry: whole_start; then the skeleton
def R_law : String := "OvenLiesLaw"
def lw_P (b : Addr) (xs : List Int32) (args : Array Value) (s : State) : Prop := args = #[.ref b] ∧ s.IntsAt b xs ∧ xs.length ≤ 3072 ∧ (Jvm.Cond.and given_1 narrow_1).before args s = true
def lw_Q (_ : Array Value) (s : State) (o : Outcome) (t : State) : Prop := o = .returned (some (.int 1)) ∧ Framed s o t [] 600000 7302250
def lw_Z (below : List Frame) (a : Array Value) (s : State) : State → Prop := fun t => ∃ o, t.status = .running ∧ Ended t below o ∧ lw_Q a s o t
/-- the law's own end, with 1 on the stack, nothing written that was there before, its room as the claim has it -/
theorem lw_ret {p : Program} {l : Launch} {e : Env} {s : State} {m : MethodId} {below : List Frame} {meth : Method} {c : Code} {b : Nat} (hx : p.tables.exec = Jvm.exec) (hb : c.code = code) (hr : meth.sig.returnType = ret) (hlocks : meth.locks = false) {pc : Nat} {H : Heap} {ls : Array Slot} (hdg : decode code pc = .ok (.ireturn, 1)) : W p l e room_1 s m #[Value.ref b] below meth c H [] 600000 7302250 (lw_Z below #[Value.ref b] s) (F0 m pc ls [.int 1]) := by
  intro T hT X
  obtain ⟨fs, hret, hrun, hended, hW, hframe⟩ := X.leave (v := some (.int 1)) (hlocks := hlocks) (fun h => by rw [hr] at h; cases h)
  have hmeth' : T.vm.method? m = some meth := X.method'
  refine ⟨T.setFrames fs, ?_, .returned (some (.int 1)), hrun, hended, rfl, ⟨_, rfl⟩, hW, hframe⟩
  jvm_step X.here [X.here.top, hx, hb, hdg, hmeth', hr, ret, narrow_b1]
  (try refine ⟨rfl, ?_⟩); (try refine ⟨rfl, ?_⟩)
  first | (intro acts; rw [hret _ acts rfl rfl rfl]) | rw [hret _ _ rfl rfl rfl]
  exact Steps.refl _
/-- what holds at the law's entry: the machine, the code, the tables' words (any of lw_tbl by 'hts w (by decide +kernel)'), the script of L ints xs at the cell b, what the Statement gives of the start (any of its parts by flat_of_before) -/
def lw_At (p : Program) (s : State) (m : MethodId) (meth : Method) (c : Code) (b L : Nat) (xs : Nat → Int32) : Prop :=
  p.tables.exec = Jvm.exec ∧ c.code = code ∧ meth.sig.returnType = ret ∧ c.maxLocals = 4 ∧ s.vm.findClass R_law = some m.cls ∧ (∀ w ∈ lw_tbl, w.before #[Value.ref b] s = true) ∧ va_X b L xs s s.heap ∧ b < s.heap.size ∧ meth.locks = false ∧ (Jvm.Cond.and given_1 narrow_1).before #[Value.ref b] s = true
set_option maxHeartbeats 4000000 in
set_option maxRecDepth 100000 in
theorem whole_start {p : Program} {e : Env} {s : State} {m : MethodId} {below : List Frame} {meth : Method} {c : Code} (l : Launch) (hflags : l.flags = flags0) {b L : Nat} {xs : Nat → Int32} (hL : L ≤ 3072) (C0 : lw_At p s m meth c b L xs) : W p l e room_1 s m #[Value.ref b] below meth c s.heap [] 0 0 (lw_Z below #[Value.ref b] s) (entryFrame m ([Value.ref b] : List Value).toArray 4) := by
  obtain ⟨hx, hb, hr, hml, hown, hts, hX, hbl, hlocks, hgv⟩ := id C0
  have hT : TB s := fun w hw ho => va_Nw.of (okW_on ho) (hts w hw)
  obtain ⟨sa, sv, hsa, hSB⟩ := sb_of hT hts hgv
  obtain ⟨dC, dI, hKn⟩ := kn_all hT
  have ai : (Cond.arrayClass .int).before #[Value.ref b] s = true := hts _ (List.mem_of_getElem? (i := 141) (by decide +kernel))
  have ab : (Cond.arrayClass .boolean).before #[Value.ref b] s = true := hts _ (List.mem_of_getElem? (i := 247) (by decide +kernel))
  have ac : (Cond.arrayClass .char).before #[Value.ref b] s = true := hts _ (List.mem_of_getElem? (i := 248) (by decide +kernel))
  have ao : (Cond.arrayOver (.object "OvenLies$Town")).before #[Value.ref b] s = true := hts _ (List.mem_of_getElem? (i := 220) (by decide +kernel))
  obtain ⟨g0, x0, y0⟩ := arrT_of ai
  obtain ⟨g1, x1, y1⟩ := arrT_of ab
  obtain ⟨g2, x2, y2⟩ := arrT_of ac
  obtain ⟨g3, x3, y3⟩ := arrQ_of ao
  obtain ⟨G, e0, e1, e2, e3⟩ : ∃ G : Nat → ClassId, G 0 = g0 ∧ G 1 = g1 ∧ G 2 = g2 ∧ G 3 = g3 := ⟨fun t => if t = 0 then g0 else if t = 1 then g1 else if t = 2 then g2 else g3, rfl, rfl, rfl, rfl⟩
  obtain ⟨D, hDe⟩ : ∃ D : va_G, D = (dC, dI) := ⟨_, rfl⟩
  have hK : va_K D vwCl (tyG G) s := by
    refine ⟨fun k q hq => ?_, fun k q hq => ?_⟩
    · have hk : k < 8 := (List.getElem?_eq_some_iff.mp hq).1
      rw [vwCl_at hk] at hq
      cases hq
      rw [hDe]
      exact hKn k hk
    · unfold tyG at hq
      rw [e0, e1, e2, e3] at hq
      match k, hq with
      | 0, hq => cases hq; exact ⟨x0, y0⟩
      | 1, hq => cases hq; exact ⟨x1, y1⟩
      | 2, hq => cases hq; exact ⟨x2, y2⟩
      | 3, hq => cases hq; exact ⟨x3, y3⟩
      | k + 4, hq => simp at hq
  have hI : IB D G s := ⟨hK, hT, fun a => ⟨word_at (State.WarmedH.refl s) (Or.inr ⟨_, rfl⟩) ai, word_at (State.WarmedH.refl s) (Or.inr ⟨_, rfl⟩) ab, word_at (State.WarmedH.refl s) (Or.inr ⟨_, rfl⟩) ac⟩, va_AO.of ao⟩
  obtain ⟨A, hAe⟩ : ∃ A : Nat → Prop, A = fun q => s.heap.size ≤ q := ⟨_, rfl⟩
  have hA : ∀ q : Nat, s.heap.size ≤ q → A q := fun q h => by rw [hAe]; exact h
  have hAr : ∀ q : Nat, A q → s.heap.size ≤ q := fun q h => by rw [hAe] at h; exact h
  have hbA : ¬ A b := fun h => Nat.not_le.mpr hbl (hAr b h)
  rw [← hAe] at hSB
  have hS : va_S A s.heap s.heap [] := va_S.rf
  have hP : va_P D vwCl [] s.heap := fun k q h => by simp at h
  have hD : va_D A [] := ⟨fun i j p q h => by simp at h, fun k q h => by simp at h⟩
  have hl := lv_entry ([.ref b]) (n := 4) (Nat.le_of_ble_eq_true rfl)
  rw [lg_entry_eq]
  generalize (lg_sl ([.ref b]) ++ List.replicate (4 - (lg_sl ([.ref b])).length) Slot.unset).toArray = ls at hl ⊢
  have hl : lv_has ls 4 [(0, .ref b)] := hl
  refine va_new (ci := 6) (fs := [.null, .null, .null, .null, .null, .null, .null, .null, .long 0, .long 0, .int 0, .int 0, .int 0]) (C := RX6) (T := TX6) (N := 13) hx hb hT.oks (u_ok 6 (by decide)) tyX6 tyX6_ok hown (hT.tin (i := 104) (w := .classLink R_law 7 RX6) (by decide +kernel)) (hT.tin (i := 105) (w := .instantiable RX6 13) (by decide +kernel)) (hT.tin (i := 91) (w := .initialized RX6) (by decide +kernel)) hK hP hD hS hA rfl (fun j hj => by rcases (show j = 0 ∨ j = 1 ∨ j = 2 ∨ j = 3 ∨ j = 4 ∨ j = 5 ∨ j = 6 ∨ j = 7 ∨ j = 8 ∨ j = 9 ∨ j = 10 ∨ j = 11 ∨ j = 12 by omega) with rfl | rfl | rfl | rfl | rfl | rfl | rfl | rfl | rfl | rfl | rfl | rfl | rfl <;> rfl) (Nat.le_of_ble_eq_true rfl) (Nat.le_of_ble_eq_true rfl) (by decide +kernel : decode code 0 = .ok (.new 7, 3)) (fun h H hP hD hS => ?_)
  refine W.widen (k := 1) (n := 13) (Nat.le_of_ble_eq_true rfl) (Nat.le_of_ble_eq_true rfl) ?_
  refine lv_dup hx hb (by decide +kernel : decode code 3 = .ok (.dup, 1)) rfl ?_
  refine ini_callW (ws := []) (As := []) (rest := [.ref h]) (ci := 6) (fs := [.null, .null, .null, .null, .null, .null, .null, .null, .long 0, .long 0, .int 0, .int 0, .int 0]) (nP := 0) ⟨hx, hb, hml, hown, fun _ h => by cases h⟩ hI (fun sz => ini6 l D G h sz) (ini_cb hT (i1 := 108) (i2 := 91) (i3 := 106) (i4 := 107) (by decide +kernel) (by decide +kernel) (by decide +kernel) (by decide +kernel) rfl rfl (Nat.le_of_ble_eq_true rfl) (Nat.le_of_ble_eq_true rfl) (by decide) rfl (by decide +kernel)) hP hD hS hA rfl hl.1 (lv_room (Nat.le_of_ble_eq_true rfl)) (by decide +kernel : decode code 4 = .ok (.invokespecial 9, 3)) ⟨Nat.le_of_ble_eq_true rfl, Nat.le_of_ble_eq_true rfl⟩ (fun w6 H locs hw6 hP hD hS => ?_)
  have hP : va_P D vwCl w6 H := hP
  have hD : va_D A w6 := hD
  refine W.widen (k := 71) (n := 1194) (Nat.le_of_ble_eq_true rfl) (Nat.le_of_ble_eq_true rfl) ?_
  refine lv_astore_n (lv' := [(1, .ref h), (0, .ref b)]) hx hb (by decide +kernel : decode code 7 = .ok (.astore_n 1, 1)) rfl hl (by decide) rfl (fun ls hl => ?_)
  refine va_new (ci := 7) (fs := [.null, .null, .null, .null, .null, .null, .long 0, .long 0, .null, .int 0, .int 0, .int 0, .int 0, .int 0, .int 0, .null]) (C := RX7) (T := TX7) (N := 16) hx hb hT.oks (u_ok 7 (by decide)) tyX7 tyX7_ok hown (hT.tin (i := 901) (w := .classLink R_law 10 RX7) (by decide +kernel)) (hT.tin (i := 902) (w := .instantiable RX7 16) (by decide +kernel)) (hT.tin (i := 99) (w := .initialized RX7) (by decide +kernel)) hK hP hD hS hA rfl (fun j hj => by rcases (show j = 0 ∨ j = 1 ∨ j = 2 ∨ j = 3 ∨ j = 4 ∨ j = 5 ∨ j = 6 ∨ j = 7 ∨ j = 8 ∨ j = 9 ∨ j = 10 ∨ j = 11 ∨ j = 12 ∨ j = 13 ∨ j = 14 ∨ j = 15 by omega) with rfl | rfl | rfl | rfl | rfl | rfl | rfl | rfl | rfl | rfl | rfl | rfl | rfl | rfl | rfl | rfl <;> rfl) (Nat.le_of_ble_eq_true rfl) (Nat.le_of_ble_eq_true rfl) (by decide +kernel : decode code 8 = .ok (.new 10, 3)) (fun r H hP hD hS => ?_)
  refine W.widen (k := 72) (n := 1210) (Nat.le_of_ble_eq_true rfl) (Nat.le_of_ble_eq_true rfl) ?_
  refine lv_dup hx hb (by decide +kernel : decode code 11 = .ok (.dup, 1)) rfl ?_
  refine ini_callW (ws := w6) (As := []) (rest := [.ref r]) (ci := 7) (fs := [.null, .null, .null, .null, .null, .null, .long 0, .long 0, .null, .int 0, .int 0, .int 0, .int 0, .int 0, .int 0, .null]) (nP := 0) ⟨hx, hb, hml, hown, fun _ h => by cases h⟩ hI (fun sz => ini7 l D G r sz) (ini_cb hT (i1 := 905) (i2 := 99) (i3 := 903) (i4 := 904) (by decide +kernel) (by decide +kernel) (by decide +kernel) (by decide +kernel) rfl rfl (Nat.le_of_ble_eq_true rfl) (Nat.le_of_ble_eq_true rfl) (by decide) rfl (by decide +kernel)) hP hD hS hA rfl hl.1 (lv_room (Nat.le_of_ble_eq_true rfl)) (by decide +kernel : decode code 12 = .ok (.invokespecial 12, 3)) ⟨Nat.le_of_ble_eq_true rfl, Nat.le_of_ble_eq_true rfl⟩ (fun w7 H locs hw7 hP hD hS => ?_)
  refine W.widen (k := 80) (n := 2477) (Nat.le_of_ble_eq_true rfl) (Nat.le_of_ble_eq_true rfl) ?_
  refine lv_astore_n (lv' := [(2, .ref r), (1, .ref h), (0, .ref b)]) hx hb (by decide +kernel : decode code 15 = .ok (.astore_n 2, 1)) rfl hl (by decide) rfl (fun ls hl => ?_)
  obtain ⟨q1, q2, q3, q4, q5, q6, q7, q8, q9, q10, q11, q12, q13, q14, q15, q16, q17, q18, q19, q20, q21, q22, q23, q24, q25, q26, q27, q28, q29, q30, q31, q32, q33, q34, q35, q36, q37, q38, q39, q40, q41, q42, q43, q44, q45, q46, q47, q48, q49, q50, q51, q52, q53, q54, q55, q56, q57, q58, q59, q60, q61, q62, q63, q64, q65, q66, q67, q68, q69, q70, rfl⟩ := hw6
  obtain ⟨r1, r2, r3, r4, r5, r6, r7, r8, rfl⟩ := hw7
  have hP : va_P D vwCl ((h, .inr (6, [.ref q1, .ref q15, .ref q29, .ref q58, .ref q59, .ref q61, .ref q64, .ref q70, .long 0, .long 1, .int 0, .int 0, .int 0])) :: (q1, .inr (5, [.int 0, .int 0, .int 0, .ref q2, .ref q3, .ref q4, .ref q5, .ref q6, .ref q7, .ref q9, .ref q11, .ref q13])) :: (q2, .inl (G 0, 7, .inl fun _ => 0)) :: (q3, .inl (G 0, 7, .inl fun _ => 0)) :: (q4, .inl (G 0, 7, .inl fun _ => 0)) :: (q5, .inl (G 0, 5, .inl fun _ => 0)) :: (q6, .inl (G 0, 5, .inl fun _ => 0)) :: (q7, .inr (4, [.int 5, .int 5, .ref q8, .int 0])) :: (q8, .inl (G 0, 25, .inl fun _ => 0)) :: (q9, .inr (4, [.int 6, .int 5, .ref q10, .int 0])) :: (q10, .inl (G 0, 30, .inl fun _ => 0)) :: (q11, .inr (4, [.int 6, .int 4, .ref q12, .int 0])) :: (q12, .inl (G 0, 24, .inl fun _ => 0)) :: (q13, .inr (1, [.ref q14, .int 0])) :: (q14, .inl (G 0, 104, .inl fun _ => 0)) :: (q15, .inr (5, [.int 0, .int 0, .int 0, .ref q16, .ref q17, .ref q18, .ref q19, .ref q20, .ref q21, .ref q23, .ref q25, .ref q27])) :: (q16, .inl (G 0, 7, .inl fun _ => 0)) :: (q17, .inl (G 0, 7, .inl fun _ => 0)) :: (q18, .inl (G 0, 7, .inl fun _ => 0)) :: (q19, .inl (G 0, 5, .inl fun _ => 0)) :: (q20, .inl (G 0, 5, .inl fun _ => 0)) :: (q21, .inr (4, [.int 5, .int 5, .ref q22, .int 0])) :: (q22, .inl (G 0, 25, .inl fun _ => 0)) :: (q23, .inr (4, [.int 6, .int 5, .ref q24, .int 0])) :: (q24, .inl (G 0, 30, .inl fun _ => 0)) :: (q25, .inr (4, [.int 6, .int 4, .ref q26, .int 0])) :: (q26, .inl (G 0, 24, .inl fun _ => 0)) :: (q27, .inr (1, [.ref q28, .int 0])) :: (q28, .inl (G 0, 104, .inl fun _ => 0)) :: (q29, .inl (G 3, 2, .inr (.inr (.inr (.inr (va_up (va_up (fun _ => none) 0 (some q30)) 1 (some q44))))))) :: (q30, .inr (5, [.int 0, .int 0, .int 0, .ref q31, .ref q32, .ref q33, .ref q34, .ref q35, .ref q36, .ref q38, .ref q40, .ref q42])) :: (q31, .inl (G 0, 7, .inl fun _ => 0)) :: (q32, .inl (G 0, 7, .inl fun _ => 0)) :: (q33, .inl (G 0, 7, .inl fun _ => 0)) :: (q34, .inl (G 0, 5, .inl fun _ => 0)) :: (q35, .inl (G 0, 5, .inl fun _ => 0)) :: (q36, .inr (4, [.int 5, .int 5, .ref q37, .int 0])) :: (q37, .inl (G 0, 25, .inl fun _ => 0)) :: (q38, .inr (4, [.int 6, .int 5, .ref q39, .int 0])) :: (q39, .inl (G 0, 30, .inl fun _ => 0)) :: (q40, .inr (4, [.int 6, .int 4, .ref q41, .int 0])) :: (q41, .inl (G 0, 24, .inl fun _ => 0)) :: (q42, .inr (1, [.ref q43, .int 0])) :: (q43, .inl (G 0, 104, .inl fun _ => 0)) :: (q44, .inr (5, [.int 0, .int 0, .int 0, .ref q45, .ref q46, .ref q47, .ref q48, .ref q49, .ref q50, .ref q52, .ref q54, .ref q56])) :: (q45, .inl (G 0, 7, .inl fun _ => 0)) :: (q46, .inl (G 0, 7, .inl fun _ => 0)) :: (q47, .inl (G 0, 7, .inl fun _ => 0)) :: (q48, .inl (G 0, 5, .inl fun _ => 0)) :: (q49, .inl (G 0, 5, .inl fun _ => 0)) :: (q50, .inr (4, [.int 5, .int 5, .ref q51, .int 0])) :: (q51, .inl (G 0, 25, .inl fun _ => 0)) :: (q52, .inr (4, [.int 6, .int 5, .ref q53, .int 0])) :: (q53, .inl (G 0, 30, .inl fun _ => 0)) :: (q54, .inr (4, [.int 6, .int 4, .ref q55, .int 0])) :: (q55, .inl (G 0, 24, .inl fun _ => 0)) :: (q56, .inr (1, [.ref q57, .int 0])) :: (q57, .inl (G 0, 104, .inl fun _ => 0)) :: (q58, .inl (G 1, 2, .inl fun _ => 0)) :: (q59, .inr (2, [.ref q60, .int 0, .int 0, .int 0, .int 0, .int 0])) :: (q60, .inl (G 2, 150, .inl fun _ => 0)) :: (q61, .inr (0, [.ref q1, .ref q62, .ref q63, .int 0, .int 0])) :: (q62, .inl (G 0, 5, .inl fun _ => 0)) :: (q63, .inl (G 0, 7, .inl fun _ => 0)) :: (q64, .inr (3, [.ref q1, .ref q65, .ref q66, .ref q67, .ref q68, .ref q69, .int 0, .int 0])) :: (q65, .inl (G 0, 5, .inl fun _ => 0)) :: (q66, .inl (G 0, 5, .inl fun _ => 0)) :: (q67, .inl (G 0, 7, .inl fun _ => 0)) :: (q68, .inl (G 0, 6, .inl fun _ => 0)) :: (q69, .inl (G 0, 6, .inl fun _ => 0)) :: (q70, .inl (G 0, 7, .inl fun _ => 0)) :: (r, .inr (7, [.ref r1, .ref r2, .ref r3, .ref r4, .ref r5, .ref r6, .long 0, .long 1, .ref r7, .int 0, .int 0, .int 0, .int 0, .int 0, .int 0, .ref r8])) :: (r1, .inl (G 0, 221, .inl fun _ => 0)) :: (r2, .inl (G 0, 221, .inl fun _ => 0)) :: (r3, .inl (G 0, 221, .inl fun _ => 0)) :: (r4, .inl (G 0, 442, .inl fun _ => 0)) :: (r5, .inl (G 1, 2, .inl fun _ => 0)) :: (r6, .inl (G 0, 3, .inl fun _ => 0)) :: (r7, .inl (G 0, 150, .inl fun _ => 0)) :: (r8, .inl (G 0, 7, .inl fun _ => 0)) :: []) H := hP
  have hD : va_D A ((h, .inr (6, [.ref q1, .ref q15, .ref q29, .ref q58, .ref q59, .ref q61, .ref q64, .ref q70, .long 0, .long 1, .int 0, .int 0, .int 0])) :: (q1, .inr (5, [.int 0, .int 0, .int 0, .ref q2, .ref q3, .ref q4, .ref q5, .ref q6, .ref q7, .ref q9, .ref q11, .ref q13])) :: (q2, .inl (G 0, 7, .inl fun _ => 0)) :: (q3, .inl (G 0, 7, .inl fun _ => 0)) :: (q4, .inl (G 0, 7, .inl fun _ => 0)) :: (q5, .inl (G 0, 5, .inl fun _ => 0)) :: (q6, .inl (G 0, 5, .inl fun _ => 0)) :: (q7, .inr (4, [.int 5, .int 5, .ref q8, .int 0])) :: (q8, .inl (G 0, 25, .inl fun _ => 0)) :: (q9, .inr (4, [.int 6, .int 5, .ref q10, .int 0])) :: (q10, .inl (G 0, 30, .inl fun _ => 0)) :: (q11, .inr (4, [.int 6, .int 4, .ref q12, .int 0])) :: (q12, .inl (G 0, 24, .inl fun _ => 0)) :: (q13, .inr (1, [.ref q14, .int 0])) :: (q14, .inl (G 0, 104, .inl fun _ => 0)) :: (q15, .inr (5, [.int 0, .int 0, .int 0, .ref q16, .ref q17, .ref q18, .ref q19, .ref q20, .ref q21, .ref q23, .ref q25, .ref q27])) :: (q16, .inl (G 0, 7, .inl fun _ => 0)) :: (q17, .inl (G 0, 7, .inl fun _ => 0)) :: (q18, .inl (G 0, 7, .inl fun _ => 0)) :: (q19, .inl (G 0, 5, .inl fun _ => 0)) :: (q20, .inl (G 0, 5, .inl fun _ => 0)) :: (q21, .inr (4, [.int 5, .int 5, .ref q22, .int 0])) :: (q22, .inl (G 0, 25, .inl fun _ => 0)) :: (q23, .inr (4, [.int 6, .int 5, .ref q24, .int 0])) :: (q24, .inl (G 0, 30, .inl fun _ => 0)) :: (q25, .inr (4, [.int 6, .int 4, .ref q26, .int 0])) :: (q26, .inl (G 0, 24, .inl fun _ => 0)) :: (q27, .inr (1, [.ref q28, .int 0])) :: (q28, .inl (G 0, 104, .inl fun _ => 0)) :: (q29, .inl (G 3, 2, .inr (.inr (.inr (.inr (va_up (va_up (fun _ => none) 0 (some q30)) 1 (some q44))))))) :: (q30, .inr (5, [.int 0, .int 0, .int 0, .ref q31, .ref q32, .ref q33, .ref q34, .ref q35, .ref q36, .ref q38, .ref q40, .ref q42])) :: (q31, .inl (G 0, 7, .inl fun _ => 0)) :: (q32, .inl (G 0, 7, .inl fun _ => 0)) :: (q33, .inl (G 0, 7, .inl fun _ => 0)) :: (q34, .inl (G 0, 5, .inl fun _ => 0)) :: (q35, .inl (G 0, 5, .inl fun _ => 0)) :: (q36, .inr (4, [.int 5, .int 5, .ref q37, .int 0])) :: (q37, .inl (G 0, 25, .inl fun _ => 0)) :: (q38, .inr (4, [.int 6, .int 5, .ref q39, .int 0])) :: (q39, .inl (G 0, 30, .inl fun _ => 0)) :: (q40, .inr (4, [.int 6, .int 4, .ref q41, .int 0])) :: (q41, .inl (G 0, 24, .inl fun _ => 0)) :: (q42, .inr (1, [.ref q43, .int 0])) :: (q43, .inl (G 0, 104, .inl fun _ => 0)) :: (q44, .inr (5, [.int 0, .int 0, .int 0, .ref q45, .ref q46, .ref q47, .ref q48, .ref q49, .ref q50, .ref q52, .ref q54, .ref q56])) :: (q45, .inl (G 0, 7, .inl fun _ => 0)) :: (q46, .inl (G 0, 7, .inl fun _ => 0)) :: (q47, .inl (G 0, 7, .inl fun _ => 0)) :: (q48, .inl (G 0, 5, .inl fun _ => 0)) :: (q49, .inl (G 0, 5, .inl fun _ => 0)) :: (q50, .inr (4, [.int 5, .int 5, .ref q51, .int 0])) :: (q51, .inl (G 0, 25, .inl fun _ => 0)) :: (q52, .inr (4, [.int 6, .int 5, .ref q53, .int 0])) :: (q53, .inl (G 0, 30, .inl fun _ => 0)) :: (q54, .inr (4, [.int 6, .int 4, .ref q55, .int 0])) :: (q55, .inl (G 0, 24, .inl fun _ => 0)) :: (q56, .inr (1, [.ref q57, .int 0])) :: (q57, .inl (G 0, 104, .inl fun _ => 0)) :: (q58, .inl (G 1, 2, .inl fun _ => 0)) :: (q59, .inr (2, [.ref q60, .int 0, .int 0, .int 0, .int 0, .int 0])) :: (q60, .inl (G 2, 150, .inl fun _ => 0)) :: (q61, .inr (0, [.ref q1, .ref q62, .ref q63, .int 0, .int 0])) :: (q62, .inl (G 0, 5, .inl fun _ => 0)) :: (q63, .inl (G 0, 7, .inl fun _ => 0)) :: (q64, .inr (3, [.ref q1, .ref q65, .ref q66, .ref q67, .ref q68, .ref q69, .int 0, .int 0])) :: (q65, .inl (G 0, 5, .inl fun _ => 0)) :: (q66, .inl (G 0, 5, .inl fun _ => 0)) :: (q67, .inl (G 0, 7, .inl fun _ => 0)) :: (q68, .inl (G 0, 6, .inl fun _ => 0)) :: (q69, .inl (G 0, 6, .inl fun _ => 0)) :: (q70, .inl (G 0, 7, .inl fun _ => 0)) :: (r, .inr (7, [.ref r1, .ref r2, .ref r3, .ref r4, .ref r5, .ref r6, .long 0, .long 1, .ref r7, .int 0, .int 0, .int 0, .int 0, .int 0, .int 0, .ref r8])) :: (r1, .inl (G 0, 221, .inl fun _ => 0)) :: (r2, .inl (G 0, 221, .inl fun _ => 0)) :: (r3, .inl (G 0, 221, .inl fun _ => 0)) :: (r4, .inl (G 0, 442, .inl fun _ => 0)) :: (r5, .inl (G 1, 2, .inl fun _ => 0)) :: (r6, .inl (G 0, 3, .inl fun _ => 0)) :: (r7, .inl (G 0, 150, .inl fun _ => 0)) :: (r8, .inl (G 0, 7, .inl fun _ => 0)) :: []) := hD
  have h29 : va_at D vwCl (q29, .inl (G 3, 2, .inr (.inr (.inr (.inr (fun i => some (adL (h :: q1 :: q2 :: q3 :: q4 :: q5 :: q6 :: q7 :: q8 :: q9 :: q10 :: q11 :: q12 :: q13 :: q14 :: q15 :: q16 :: q17 :: q18 :: q19 :: q20 :: q21 :: q22 :: q23 :: q24 :: q25 :: q26 :: q27 :: q28 :: q29 :: q30 :: q31 :: q32 :: q33 :: q34 :: q35 :: q36 :: q37 :: q38 :: q39 :: q40 :: q41 :: q42 :: q43 :: q44 :: q45 :: q46 :: q47 :: q48 :: q49 :: q50 :: q51 :: q52 :: q53 :: q54 :: q55 :: q56 :: q57 :: q58 :: q59 :: q60 :: q61 :: q62 :: q63 :: q64 :: q65 :: q66 :: q67 :: q68 :: q69 :: q70 :: r :: r1 :: r2 :: r3 :: r4 :: r5 :: r6 :: r7 :: r8 :: []) (shE 29 i)))))))) H := by
    have h0 := hP 29 _ rfl
    have h1 : H[q29]? = some (vp_cell (G 3) (2, .inr (.inr (.inr (.inr (va_up (va_up (fun _ => none) 0 (some q30)) 1 (some q44))))))) := h0
    show H[q29]? = some (vp_cell (G 3) (2, .inr (.inr (.inr (.inr (fun i => some (adL (h :: q1 :: q2 :: q3 :: q4 :: q5 :: q6 :: q7 :: q8 :: q9 :: q10 :: q11 :: q12 :: q13 :: q14 :: q15 :: q16 :: q17 :: q18 :: q19 :: q20 :: q21 :: q22 :: q23 :: q24 :: q25 :: q26 :: q27 :: q28 :: q29 :: q30 :: q31 :: q32 :: q33 :: q34 :: q35 :: q36 :: q37 :: q38 :: q39 :: q40 :: q41 :: q42 :: q43 :: q44 :: q45 :: q46 :: q47 :: q48 :: q49 :: q50 :: q51 :: q52 :: q53 :: q54 :: q55 :: q56 :: q57 :: q58 :: q59 :: q60 :: q61 :: q62 :: q63 :: q64 :: q65 :: q66 :: q67 :: q68 :: q69 :: q70 :: r :: r1 :: r2 :: r3 :: r4 :: r5 :: r6 :: r7 :: r8 :: []) (shE 29 i))))))))
    rw [h1, vp_cell_q, vp_cell_q]
    refine congrArg some (arrV_congr (fun j hj => ?_))
    rcases (show j = 0 ∨ j = 1 by omega) with rfl | rfl <;> rfl
  have hPs := hP.set (p := 29) hD rfl h29 (fun _ _ => rfl)
  have hDs := hD.set (p := 29) (e := .inl (G 3, 2, .inr (.inr (.inr (.inr (fun i => some (adL (h :: q1 :: q2 :: q3 :: q4 :: q5 :: q6 :: q7 :: q8 :: q9 :: q10 :: q11 :: q12 :: q13 :: q14 :: q15 :: q16 :: q17 :: q18 :: q19 :: q20 :: q21 :: q22 :: q23 :: q24 :: q25 :: q26 :: q27 :: q28 :: q29 :: q30 :: q31 :: q32 :: q33 :: q34 :: q35 :: q36 :: q37 :: q38 :: q39 :: q40 :: q41 :: q42 :: q43 :: q44 :: q45 :: q46 :: q47 :: q48 :: q49 :: q50 :: q51 :: q52 :: q53 :: q54 :: q55 :: q56 :: q57 :: q58 :: q59 :: q60 :: q61 :: q62 :: q63 :: q64 :: q65 :: q66 :: q67 :: q68 :: q69 :: q70 :: r :: r1 :: r2 :: r3 :: r4 :: r5 :: r6 :: r7 :: r8 :: []) (shE 29 i)))))))) rfl
  have hW0 := wld0 G sa h q1 q2 q3 q4 q5 q6 q7 q8 q9 q10 q11 q12 q13 q14 q15 q16 q17 q18 q19 q20 q21 q22 q23 q24 q25 q26 q27 q28 q29 q30 q31 q32 q33 q34 q35 q36 q37 q38 q39 q40 q41 q42 q43 q44 q45 q46 q47 q48 q49 q50 q51 q52 q53 q54 q55 q56 q57 q58 q59 q60 q61 q62 q63 q64 q65 q66 q67 q68 q69 q70 r r1 r2 r3 r4 r5 r6 r7 r8
  generalize hade : adL (h :: q1 :: q2 :: q3 :: q4 :: q5 :: q6 :: q7 :: q8 :: q9 :: q10 :: q11 :: q12 :: q13 :: q14 :: q15 :: q16 :: q17 :: q18 :: q19 :: q20 :: q21 :: q22 :: q23 :: q24 :: q25 :: q26 :: q27 :: q28 :: q29 :: q30 :: q31 :: q32 :: q33 :: q34 :: q35 :: q36 :: q37 :: q38 :: q39 :: q40 :: q41 :: q42 :: q43 :: q44 :: q45 :: q46 :: q47 :: q48 :: q49 :: q50 :: q51 :: q52 :: q53 :: q54 :: q55 :: q56 :: q57 :: q58 :: q59 :: q60 :: q61 :: q62 :: q63 :: q64 :: q65 :: q66 :: q67 :: q68 :: q69 :: q70 :: r :: r1 :: r2 :: r3 :: r4 :: r5 :: r6 :: r7 :: r8 :: []) = ad at hPs hDs hW0
  have hPs : va_P D vwCl (wld G ad sa s0) H := by rw [hW0]; exact hPs
  have hDs : va_D A (wld G ad sa s0) := by rw [hW0]; exact hDs
  have a0 : ad 0 = h := by rw [← hade]; rfl
  have a71 : ad 71 = r := by rw [← hade]; rfl
  have hinj : ∀ i j, i < nCl → j < nCl → ad i = ad j → i = j := fun i j hi hj q => hDs.1 i j _ _ (wld_get hi) (wld_get hj) q
  have hAk : ∀ k, k < nCl → A (ad k) := fun k hk => hDs.2 k _ (wld_get hk)
  have E : EnvY p s m c ad sa sv D G A 204 := ⟨hx, hb.trans mcd_204.symm, hml.trans mml_204.symm, by rw [mow_204]; exact hown, hT, hK, hinj, hAk, hSB⟩
  have hXs : ScrX sa A s (some (L, xs)) := by
    show va_X (sa 1) L xs s s.heap ∧ sa 1 < s.heap.size ∧ ¬ A (sa 1) ∧ L ≤ 3072
    rw [hsa]
    exact ⟨hX, hbl, hbA, hL⟩
  have hLV : LV ad sa 204 ls [.inr (.inr (.inr 1)), .inr (.inr (.inl 0)), .inr (.inr (.inl 71)), aU] := by
    refine ⟨hl.1.trans mml_204.symm, hl.2.1, mml_204.symm, fun _ v hv => ?_, fun i v hi hv => ?_⟩
    · simp only [List.mem_cons, List.mem_nil_iff, or_false] at hv
      rcases hv with rfl | rfl | rfl | rfl <;> rfl
    · match i, hi with
      | 0, hi =>
        cases hi
        show ls[0]? = some (Slot.val (.ref (sa 1)))
        rw [hsa]
        exact lv_at hl 2 rfl
      | 1, hi =>
        cases hi
        show ls[1]? = some (Slot.val (.ref (ad 0)))
        rw [a0]
        exact lv_at hl 1 rfl
      | 2, hi =>
        cases hi
        show ls[2]? = some (Slot.val (.ref (ad 71)))
        rw [a71]
        exact lv_at hl 0 rfl
      | 3, hi => cases hi; exact absurd rfl hv
      | i + 4, hi => simp at hi
  obtain ⟨n, hwp⟩ : Wp (some (L, xs)) (0 + 20) 204 16 [.inr (.inr (.inr 1)), .inr (.inr (.inl 0)), .inr (.inr (.inl 71)), aU] [] s0 (fun r _ => r = .inl 1) := by
    rw [q204_16, q204_17]
    exact lawL (d := 0) hL (L / 6 + 2) 0 s0 SS (by omega) (by omega) (by omega) CR0 MR0 SOK0 (fun _ => rfl)
  have hret : ∀ pc, decode (mcd 204) pc = .ok (.ireturn, 1) → decode code pc = .ok (.ireturn, 1) := fun pc hd => by rw [mcd_204] at hd; exact hd
  refine wp_run (d := 0 + 20) (cells := 80) (slots := 2477) E hXs (Nat.le_of_ble_eq_true rfl) (Nat.le_of_ble_eq_true rfl) ⟨Nat.le_of_ble_eq_true rfl, Nat.le_of_ble_eq_true rfl⟩ (fun y' args' σ r σ' h => cal_met hinj bi_met (0 + 20) y' args' σ r σ' h) (Q := fun r _ => r = .inl 1) ?_ ?_ ?_ n 16 _ [] s0 H locs ls hwp hLV hPs hS
  · intro pc a σ' H' locs' LS' hd hri hq hP' hS'
    cases hq
    refine va_forget (fun q hq => hAr _ (hS'.2.2 q hq)) ?_
    exact W.widen (k := 600000) (n := 7302250) (Nat.le_of_ble_eq_true rfl) (Nat.le_of_ble_eq_true rfl) (lw_ret hx hb hr hlocks (hret pc hd))
  · intro pc a σ' H' locs' LS' hd hri hq hP' hS'
    rw [mrt_204] at hri
    cases hri
  · intro pc σ' H' locs' LS' hd hri hq hP' hS'
    rw [mrt_204] at hri
    cases hri
set_option maxHeartbeats 4000000 in
theorem lw_walk (l : Launch) (hflags : l.flags = flags0) (b : Addr) (xs : List Int32) : MetFree l x (headSpec (Jvm.Cond.code x code maxLocals ret :: tables_1) room_1) (lw_P b xs) (fun _ _ _ _ _ => True) lw_Q := by
  refine MetFree.of_bodyS (code := code) (maxLocals := maxLocals) (ret := ret) (by decide) ?_ ?_
  · intro args s m h hn
    obtain ⟨meth, c, h1, h2, h3, h4, h5, h6, -, -⟩ := Cond.code_spec hn (atoms_spec (ws := Jvm.Cond.code x code maxLocals ret :: tables_1) h _ List.mem_cons_self)
    exact ⟨meth, c, h1, h2, h3, h4, h5, h6⟩
  · intro p e s m args below meth c s₁ B hml0 hP _
    obtain ⟨rfl, hx, hbd, hgv⟩ := hP
    obtain ⟨scr, harrAt, hlist, hof, hsmall⟩ := hx
    obtain ⟨hcb, hkn, -, -⟩ := State.arrayAt?_spec harrAt
    have hown : s.vm.findClass R_law = some m.cls := findClass_of_methodNamed B.named
    have hts0 : ∀ c ∈ (Jvm.Cond.code x code maxLocals ret :: tables_1), c.before #[Value.ref b] s = true := atoms_spec (ws := Jvm.Cond.code x code maxLocals ret :: tables_1) B.pre
    have hts : ∀ w ∈ lw_tbl, w.before #[Value.ref b] s = true := k2_hts_sels lw_privs (fun w hw => hts0 w (List.mem_cons_of_mem _ hw)) lw_privs_ok
    have hml : c.maxLocals = 4 := B.maxLocals_eq (hts0 _ List.mem_cons_self)
    have X₀ : Stand p l e room_1 s m #[Value.ref b] below meth c s₁ [] 0 0 := Stand.of_body B
    have hh0 : s₁.heap = s.heap := by rw [B.state]; rfl
    have hsz : scr.slots.size = xs.length := by rw [← Array.length_toList, hlist, List.length_map]
    have hval : ∀ j : Nat, j < xs.length → scr.slots[j]? = some (.int (xs.getD j 0)) := fun j hj => by
      rw [← Array.getElem?_toList, hlist]
      simp [hj]
    have hbl : b < s.heap.size := (Array.getElem?_eq_some_iff.mp hcb).1
    have hX : va_X b xs.length (fun j => xs.getD j 0) s s.heap := ⟨scr, hcb, hof, hkn, hsz, hval⟩
    have K : W p l e room_1 s m #[Value.ref b] below meth c s₁.heap [] 0 0 (lw_Z below #[Value.ref b] s) (entryFrame m ([Value.ref b] : List Value).toArray 4) := by
      rw [hh0]
      exact whole_start l hflags hbd ⟨B.exec, B.bytes, B.returns, hml, hown, hts, hX, hbl, B.notSynchronized, hgv⟩
    obtain ⟨t, a1, o, b1, b2, b3⟩ := K s₁ rfl X₀
    exact ⟨t, o, a1, b1, b2, b3⟩
theorem lw_pre_spec {args : Array Value} {s : State} (h : (Jvm.Cond.and given_1 narrow_1).before args s = true) (hr : rest_1_c.before args s = true) : ∃ (b : Addr) (xs : List Int32), lw_P b xs args s := by
  have hs := flat_of_before _ h
  have hq := flat_of_before _ hr
  have hc : (Cond.count 1).before args s = true := hs _ (by decide +kernel)
  have harr : (Cond.arrayOf (.arg 0) .int).before args s = true := hs _ (by decide +kernel)
  have hle : (Cond.le (.length (.arg 0)) (.int 3072)).before args s = true := hs _ (by decide +kernel)
  have hlen : (Cond.isInt (.length (.arg 0))).before args s = true := hq _ (by decide +kernel)
  have hall : (Cond.all (.arg 0) (.isInt (.elem (.arg 0) (.index 0)))).before args s = true := hq _ (by decide +kernel)
  obtain ⟨b, xs, hb, hx⟩ := State.ints_of_pre rfl harr hlen hall
  have hsm : xs.length < 2 ^ 31 := hx.choose_spec.2.2.2
  have hev : (Term.length (.arg 0)).eval args s none [] s = some (.int xs.length.toInt32) := hx.length_eval hb
  have hv := Cond.le_ints hev (show (Term.int 3072).eval args s none [] s = some (.int 3072) from rfl)
  have hd : xs.length.toInt32 ≤ 3072 := by
    simpa [Cond.before, Cond.holds, hv] using hle
  have hN : xs.length ≤ 3072 := (Int32.ofNat_le_ofNat hsm (by decide)).mp (show Int32.ofNat xs.length ≤ Int32.ofNat 3072 from hd)
  exact ⟨b, xs, Cond.one_arg hc (show args[0]? = some (.ref b) from hb), hx, hN, h⟩
theorem lw_comes (l : Launch) (hflags : l.flags = flags0) : Comes l x (Jvm.Cond.code x code maxLocals ret :: tables_1) room_1 (fun tb e args s => Calls_1 tb e args s ∧ rest_1 tb e args s ∧ Pre_1 tb e args s)
    (fun _ _ args s o t => lw_Q args s o t) := by
  intro p e ha hc hk s m args below hf hfit hheap happ hpre
  obtain ⟨b, xs, hP⟩ := lw_pre_spec hpre.2.2 hpre.2.1
  obtain ⟨k, o, h1, h2, h3, hQ⟩ := lw_walk l hflags b xs p e ha hc hk s m args below hf ((Spec.applies_iff_loose hf).mp happ).1 hP trivial
  exact ⟨k, o, h1, h2, h3, hQ⟩
theorem lw_frame {s t : State} {o : Outcome} {args : Array Value} (h : Framed s o t [] 600000 7302250) :
    Framed s o t (fieldLocs frame_1_writes args s ++ arrayLocs frame_1_arrays args s ++ staticLocs frame_1_statics s) 600000 7302250 := h
theorem lw_limb (L : Cond) (hL : ∀ (args : Array Value) (s t : State), L.after args s (.returned (some (.int 1))) t = true) :
    ArmFor flags0 classFile x code maxLocals ret World_1 tables_1 room_1 Calls_1 rest_1 Pre_1
      (fun tb e a s o t => postC L tb e a s o t ∧ Framed s o t (fieldLocs frame_1_writes a s ++ arrayLocs frame_1_arrays a s ++ staticLocs frame_1_statics s) 600000 7302250) := by
  intro l hflags _ _ p e ha hc hk s m args below hf hfit hheap happ hpre
  obtain ⟨k, o, h1, h2, h3, rfl, hF⟩ := lw_comes l hflags p e ha hc hk s m args below hf hfit hheap happ hpre
  exact ⟨k, _, h1, h2, h3, hL args s _, lw_frame hF⟩
theorem i_vc : Claimed_1_1 ∧ Claimed_1_2 := ⟨lw_limb limb_1_1 (fun args s t => by simp [limb_1_1, Cond.after, Cond.holds, Cond.value]), lw_limb limb_1_2 (fun args s t => Cond.after_iff.mpr (by
  first | (rw [show limb_1_2 = Cond.eq .result (.int 1) from rfl, Cond.eq_ints (x := 1) (y := 1) rfl rfl]; simp; done) | (simp [limb_1_2, Cond.value, Term.eval]; done)))⟩
