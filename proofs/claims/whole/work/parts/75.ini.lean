-- the constructors: what stands while one runs; a new array, a call of another
def IA (U : State) : Prop := (∀ a : Array Value, (Cond.arrayClass .int).before a U = true ∧ (Cond.arrayClass .boolean).before a U = true ∧ (Cond.arrayClass .char).before a U = true) ∧ va_AO "OvenLies$Town" U
def IB (D : va_G) (G : Nat → ClassId) (U : State) : Prop := va_K D vwCl (tyG G) U ∧ TB U ∧ IA U
def IP (D : va_G) (G : Nat → ClassId) (ws : va_W) (sz : Nat) (U : State) : Prop := U.heap.size = sz ∧ va_P D vwCl ws U.heap ∧ IB D G U
theorem IB.warm {D : va_G} {G : Nat → ClassId} {s U : State} (hW : s.WarmedH U.vm) (h : IB D G s) : IB D G U :=
  ⟨va_K.moved hW.alike h.1, h.2.1.warm hW, fun a => ⟨word_at hW (Or.inr ⟨_, rfl⟩) (h.2.2.1 a).1, word_at hW (Or.inr ⟨_, rfl⟩) (h.2.2.1 a).2.1, word_at hW (Or.inr ⟨_, rfl⟩) (h.2.2.1 a).2.2⟩, va_AO.moved hW.alike h.2.2.2⟩
theorem IB.calling {D : va_G} {G : Nat → ClassId} {U : State} (h : IB D G U) (g : JFrame) (mk : MethodId) (a : Array Value) : IB D G (U.calling g mk a) :=
  ⟨va_K.moved (u := U) (U := U.calling g mk a) (Vm.Alike.refl U.vm) h.1, fun w hw ho => va_Nw.same (u := U) (okW_on ho) rfl (h.2.1 w hw ho), fun b => h.2.2.1 b, va_AO.moved (u := U) (U := U.calling g mk a) (Vm.Alike.refl U.vm) h.2.2.2⟩
theorem IP.blind {D : va_G} {G : Nat → ClassId} {ws : va_W} {sz : Nat} {av : List Value} : FrameBlind (va_Pc av (IP D G ws sz)) := by
  intro a U g mk h
  obtain ⟨h1, h2, h3, h4⟩ := h
  exact ⟨h1, h2, h3, h4.calling g mk a⟩
theorem nd_range : ∀ (n s : Nat), va_nd (List.range' s n) = true := by
  intro n
  induction n with
  | zero => intro s; rfl
  | succ n ih =>
    intro s
    rw [List.range'_succ]
    unfold va_nd
    rw [ih (s + 1), Bool.and_true, decide_eq_true_eq]
    intro h
    have := (List.mem_range'_1.mp h).1
    omega
theorem range_map {α : Type} (ws : List α) (x : α) : (List.range' 0 ws.length).map (fun i => (ws ++ [x])[i]?) = ws.map some := by
  apply List.ext_getElem?
  intro i
  rw [List.getElem?_map, List.getElem?_map]
  by_cases h : i < ws.length
  · rw [List.getElem?_range' h]
    simp [List.getElem?_append_left h, h]
  · rw [List.getElem?_eq_none (by simp; omega), List.getElem?_eq_none (by omega)]
    rfl
section INI
variable {p : Program} {l : Launch} {e : Env} {R : Room} {s : State} {m : MethodId} {args : Array Value} {below : List Frame} {meth : Method} {c : Code} {cells slots : Nat} {Z : State → Prop}
variable {D : va_G} {G : Nat → ClassId} {A : Nat → Prop} {cc : ByteArray} {H : Heap} {locs : List Loc} {pc : Nat} {ls : Array Slot} {rest : List Value} {ws : va_W}
theorem ini_arr (t : Nat) (hx : p.tables.exec = Jvm.exec) (hb : c.code = cc) {atype : ArrayType} {ty : FieldType} (hty : newarray.typeOf atype = ty) (harr : (Cond.arrayClass (newarray.typeOf atype)).before args s = true) (htt : (tyG G)[t]? = some (G t, ty)) (hpr : ∀ cA, va_RA s cA ty → s.vm.findClass ("[" ++ ty.toString) = some cA)
    (hK : va_K D vwCl (tyG G) s) (hP : va_P D vwCl ws H) (hD : va_D A ws) (hS : va_S A s.heap H locs) (hA : ∀ q, s.heap.size ≤ q → A q) {n : Int32} {N' : Nat} (hd : defaultValue ty = .int 0) (hn : ¬ n < 0) (hN : n.toNatClampNeg = N') (hbytes : N' * componentBytes ty ≤ 536870912) (hcells : cells + 1 ≤ R.cells) (hslots : slots + N' ≤ R.slots) (hdg : decode cc pc = .ok (.newarray atype, 2))
    (kk : ∀ (q : Nat) (H1 : Heap), va_P D vwCl (ws ++ [(q, .inl (G t, N', .inl fun _ => 0))]) H1 → va_D A (ws ++ [(q, .inl (G t, N', .inl fun _ => 0))]) → va_S A s.heap H1 locs → W p l e R s m args below meth c H1 locs (cells + 1) (slots + N') Z (F0 m (pc + 2) ls (.ref q :: rest))) :
    W p l e R s m args below meth c H locs cells slots Z (F0 m pc ls (.int n :: rest)) := by
  refine va_newa (a0 := (N', .inl fun _ => 0)) hx hb harr hty hK hP hD hS hA (fun cA => by rw [vp_cell_i, hd]) hn hN hbytes hcells hslots hdg (fun q cA H1 hK1 hP1 hD1 hS1 => ?_)
  have e : cA = G t := by
    have h1 := (hK.2 t _ htt).2
    have h2 := (hK1.2 4 (cA, ty) rfl).2
    exact Option.some.inj ((hpr _ h2).symm.trans (hpr _ h1))
  subst e
  exact kk q H1 hP1 hD1 hS1
theorem ini_call {ci : Nat} {fs : List Value} {q : Nat} {y : MethodName} {bytes : ByteArray} {n nL nP mc ms index : Nat} {rm : Room} {SH : va_W → Prop} {As : List Value} {own : String} (S : CallFix p m c cc nL s args [] own) (hI : IB D G s)
    (hM : ∀ sz, Met l y [.code y bytes n none] rm (va_Pc (.ref q :: As) (IP D G [(q, .inr (ci, fs))] sz)) (va_Qv SH (fun w t => va_P D vwCl w t.heap ∧ va_D (va_A [(q, .inr (ci, fs))] sz) w) (va_A [(q, .inr (ci, fs))] sz)) mc ms (va_A [(q, .inr (ci, fs))] sz))
    (cw : va_CN R s args own index y "OvenLies" bytes n none [.code y bytes n none] rm mc ms nP ∧ y.name = "<init>" ∧ (Cond.instanceMethod y).before args s = true)
    (hP : va_P D vwCl (ws ++ [(q, .inr (ci, fs))]) H) (hD : va_D A (ws ++ [(q, .inr (ci, fs))])) (hS : va_S A s.heap H locs) (hA : ∀ x, s.heap.size ≤ x → A x)
    (hnP : As.length = nP) (hls : ls.size = nL) (hroom : 2 * (F0 m pc ls (As.reverse ++ .ref q :: rest)).monitorRoom + (rest.map fun v => v.category).sum ≤ 8) (hdg : decode cc pc = .ok (.invokespecial index, 3)) (hf : cells + mc ≤ R.cells ∧ slots + ms ≤ R.slots)
    (kk : ∀ (w : va_W) (H1 : Heap) (locs1 : List Loc), SH w → va_P D vwCl (ws ++ w) H1 → va_D A (ws ++ w) → va_S A s.heap H1 locs1 → W p l e R s m args below meth c H1 locs1 (cells + mc) (slots + ms) Z (F0 m (pc + 3) ls rest)) :
    W p l e R s m args below meth c H locs cells slots Z (F0 m pc ls (As.reverse ++ .ref q :: rest)) := by
  have hC : [ws.length].map (fun i => (ws ++ [(q, (.inr (ci, fs) : va_E))])[i]?) = [(q, (.inr (ci, fs) : va_E))].map some := by simp
  have hPc : va_P D vwCl [(q, .inr (ci, fs))] H := fun k x hx => by
    have hz : k < 1 := (List.getElem?_eq_some_iff.mp hx).1
    rw [show k = 0 by omega] at hx
    cases hx
    exact hP ws.length _ (by simp)
  have hFc := va_free (wc := [(q, .inr (ci, fs))]) hD hS hA [ws.length] hC
  refine va_callv (va_runIN (Ts := []) (As := As) (rest := rest) S (hM H.size) cw ⟨IP.blind, fun U hU hW => ⟨rfl, by rw [hU], by rw [hU]; exact hPc, hI.warm hW⟩⟩ rfl hnP hls rfl hroom hdg hf) hS (fun x _ h => hFc x h) hFc (fun w t H1 locs1 ht hvm hw hB hz hk hS1 => ?_)
  obtain ⟨hP1, hD1⟩ := hB
  rw [ht] at hP1
  obtain ⟨hP2, hD2⟩ := va_join (wr := ws) (w1 := w) (wc := [(q, .inr (ci, fs))]) hP hD [ws.length] (List.range' 0 ws.length) hC (range_map _ _) (nd_range _ _) (fun i hi => by have := (List.mem_range'_1.mp hi).2; simp; omega) hk hFc hP1 hD1
  exact kk w H1 locs1 hw hP2 hD2 hS1
theorem ini_cn {y : MethodName} {bytes : ByteArray} {n nP mc ms index : Nat} {rm : Room} {own : String} (hT : TB s) {i1 i2 i3 i4 : Nat} (h1 : tbl_in i1 (.code y bytes n none) = true) (h2 : tbl_in i2 (.initialized y.cls) = true) (h3 : tbl_in i3 (.methodLinkNest own index y "OvenLies") = true) (h4 : tbl_in i4 (.instanceMethod y) = true)
    (hrc : rm.cells = mc) (hrs : rm.slots = ms) (hfr : rm.frames + 1 ≤ R.frames) (hlo : 8 + (n + 11) + rm.locals ≤ R.locals) (hcls : y.cls ≠ "java/lang/invoke/MethodHandle" ∧ y.cls ≠ "java/lang/invoke/VarHandle") (hy : y.name = "<init>") (hsig : (parseMethodDescriptor y.desc).map (fun d => d.parameters.length) = some nP) :
    va_CN R s args own index y "OvenLies" bytes n none [.code y bytes n none] rm mc ms nP ∧ y.name = "<init>" ∧ (Cond.instanceMethod y).before args s = true :=
  ⟨⟨⟨hrc, hrs, hfr, hlo, fun w hw a' U hW => by rw [List.mem_singleton.mp hw]; exact (hT.warm hW).tin h1, List.mem_singleton.mpr rfl⟩, hT.tin h1, hT.tin h2, hcls, fun sig h => by rw [h] at hsig; exact (Option.some.inj hsig).symm, hT.tin h3⟩, hy, hT.tin h4⟩
end INI
