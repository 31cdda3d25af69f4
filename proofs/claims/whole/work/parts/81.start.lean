-- the law from its entry
section INIW
variable {p : Program} {l : Launch} {e : Env} {R : Room} {s : State} {m : MethodId} {args : Array Value} {below : List Frame} {meth : Method} {c : Code} {cells slots : Nat} {Z : State → Prop}
variable {D : va_G} {G : Nat → ClassId} {A : Nat → Prop} {cc : ByteArray} {H : Heap} {locs : List Loc} {pc : Nat} {ls : Array Slot} {rest : List Value} {ws : va_W}
theorem ini_callW {ci : Nat} {fs : List Value} {q : Nat} {y : MethodName} {bytes : ByteArray} {n nL nP mc ms index : Nat} {rm : Room} {SH : va_W → Prop} {As : List Value} {own : String} (S : CallFix p m c cc nL s args [] own) (hI : IB D G s)
    (hM : ∀ sz, Met l y [.code y bytes n none] rm (va_Pc (.ref q :: As) (IP D G [(q, .inr (ci, fs))] sz)) (va_Qv SH (fun w t => va_P D vwCl w t.heap ∧ va_D (va_A [(q, .inr (ci, fs))] sz) w) (va_A [(q, .inr (ci, fs))] sz)) mc ms (va_A [(q, .inr (ci, fs))] sz))
    (cw : CallB R s args own index y bytes n none [.code y bytes n none] rm mc ms nP ∧ y.name = "<init>" ∧ (Cond.instanceMethod y).before args s = true)
    (hP : va_P D vwCl (ws ++ [(q, .inr (ci, fs))]) H) (hD : va_D A (ws ++ [(q, .inr (ci, fs))])) (hS : va_S A s.heap H locs) (hA : ∀ x, s.heap.size ≤ x → A x)
    (hnP : As.length = nP) (hls : ls.size = nL) (hroom : 2 * (F0 m pc ls (As.reverse ++ .ref q :: rest)).monitorRoom + (rest.map fun v => v.category).sum ≤ 8) (hdg : decode cc pc = .ok (.invokespecial index, 3)) (hf : cells + mc ≤ R.cells ∧ slots + ms ≤ R.slots)
    (kk : ∀ (w : va_W) (H1 : Heap) (locs1 : List Loc), SH w → va_P D vwCl (ws ++ w) H1 → va_D A (ws ++ w) → va_S A s.heap H1 locs1 → W p l e R s m args below meth c H1 locs1 (cells + mc) (slots + ms) Z (F0 m (pc + 3) ls rest)) :
    W p l e R s m args below meth c H locs cells slots Z (F0 m pc ls (As.reverse ++ .ref q :: rest)) := by
  have hC : [ws.length].map (fun i => (ws ++ [(q, (.inr (ci, fs) : va_E))])[i]?) = [(q, (.inr (ci, fs) : va_E))].map some := by simp
  have hPc : va_P D vwCl [(q, .inr (ci, fs))] H := fun k x hx => by
    have hz : k < 1 := (List.getElem?_eq_some_iff.mp hx).1
    rw [show k = 0 by omega] at hx
    cases hx
    exact hP ws.length _ (by simp)
  have hFc := va_free (wc := [(q, .inr (ci, fs))]) hD hS hA [ws.length] hC
  refine va_callv (va_runI (Ts := []) (As := As) (rest := rest) S (hM H.size) cw ⟨IP.blind, fun U hU hW => ⟨rfl, by rw [hU], by rw [hU]; exact hPc, hI.warm hW⟩⟩ rfl hnP hls rfl hroom hdg hf) hS (fun x _ h => hFc x h) hFc (fun w t H1 locs1 ht hvm hw hB hz hk hS1 => ?_)
  obtain ⟨hP1, hD1⟩ := hB
  rw [ht] at hP1
  obtain ⟨hP2, hD2⟩ := va_join (wr := ws) (w1 := w) (wc := [(q, .inr (ci, fs))]) hP hD [ws.length] (List.range' 0 ws.length) hC (range_map _ _) (nd_range _ _) (fun i hi => by have := (List.mem_range'_1.mp hi).2; simp; omega) hk hFc hP1 hD1
  exact kk w H1 locs1 hw hP2 hD2 hS1
theorem ini_cb {y : MethodName} {bytes : ByteArray} {n nP mc ms index : Nat} {rm : Room} {own : String} (hT : TB s) {i1 i2 i3 i4 : Nat} (h1 : tbl_in i1 (.code y bytes n none) = true) (h2 : tbl_in i2 (.initialized y.cls) = true) (h3 : tbl_in i3 (.methodLink own index y) = true) (h4 : tbl_in i4 (.instanceMethod y) = true)
    (hrc : rm.cells = mc) (hrs : rm.slots = ms) (hfr : rm.frames + 1 ≤ R.frames) (hlo : 8 + (n + 11) + rm.locals ≤ R.locals) (hcls : y.cls ≠ "java/lang/invoke/MethodHandle" ∧ y.cls ≠ "java/lang/invoke/VarHandle") (hy : y.name = "<init>") (hsig : (parseMethodDescriptor y.desc).map (fun d => d.parameters.length) = some nP) :
    CallB R s args own index y bytes n none [.code y bytes n none] rm mc ms nP ∧ y.name = "<init>" ∧ (Cond.instanceMethod y).before args s = true :=
  ⟨⟨hrc, hrs, hfr, hlo, fun w hw a' U hW => by rw [List.mem_singleton.mp hw]; exact (hT.warm hW).tin h1, List.mem_singleton.mpr rfl, hT.tin h1, hT.tin h2, hcls, fun sig h => by rw [h] at hsig; exact (Option.some.inj hsig).symm, hT.tin h3⟩, hy, hT.tin h4⟩
end INIW
theorem arrV_congr {cI : ClassId} {N : Nat} {f g : Nat → Value} (h : ∀ j, j < N → f j = g j) : arrV cI N f = arrV cI N g := by
  unfold arrV
  have e : (fun j : Fin N => f j.val) = fun j => g j.val := funext fun j => h j.val j.isLt
  rw [e]
theorem arrT_of {s : State} {args : Array Value} {ty : FieldType} (h : (Cond.arrayClass ty).before args s = true) : ∃ cA, ArrOfT s cA ty ∧ s.vm.findClass ("[" ++ ty.toString) = some cA := by
  obtain ⟨cA, kA, comp, h1, h2, h3⟩ := Cond.arrayClass_spec h
  exact ⟨cA, fun n z => ⟨fun k h => (by cases h), kA, h2, comp, h3⟩, h1⟩
theorem arrQ_of {s : State} {args : Array Value} (h : (Cond.arrayOver (.object "OvenLies$Town")).before args s = true) : ∃ cA, ArrOfT s cA (.object "OvenLies$Town") ∧ va_RA s cA (.object "OvenLies$Town") := by
  obtain ⟨comp, cA, kA, h1, -, h2, h3, h4⟩ := Cond.arrayOver_spec h
  exact ⟨cA, fun n z => ⟨fun k h => (by cases h), kA, h2, comp, h3⟩, kA, comp, h2, h3, h1, h4⟩
theorem kn_all {s : State} (hT : TB s) : ∃ (dC : Nat → ClassId) (dI : Nat → Nat → Nat), ∀ k, k < 8 → u_Kn s (cnm k) (ctt k) (cnf k) (dC k) (dI k) := by
  have one : ∀ k, ∃ (c : ClassId) (f : Nat → Nat), k < 8 → u_Kn s (cnm k) (ctt k) (cnf k) c f := by
    intro k
    by_cases hk : k < 8
    · have hin := u_ok k hk
      have hex : ∃ (c : ClassId) (f : Nat → Nat), u_Kn s (cnm k) (ctt k) (cnf k) c f := by
        rcases (show k = 0 ∨ k = 1 ∨ k = 2 ∨ k = 3 ∨ k = 4 ∨ k = 5 ∨ k = 6 ∨ k = 7 by omega) with rfl | rfl | rfl | rfl | rfl | rfl | rfl | rfl
        · exact u_known (n := 5) (args := #[]) hT.oks hin (hT.tin (i := 250) (w := .instantiable RX0 5) (by decide +kernel))
        · exact u_known (n := 2) (args := #[]) hT.oks hin (hT.tin (i := 143) (w := .instantiable RX1 2) (by decide +kernel))
        · exact u_known (n := 6) (args := #[]) hT.oks hin (hT.tin (i := 222) (w := .instantiable RX2 6) (by decide +kernel))
        · exact u_known (n := 8) (args := #[]) hT.oks hin (hT.tin (i := 273) (w := .instantiable RX3 8) (by decide +kernel))
        · exact u_known (n := 4) (args := #[]) hT.oks hin (hT.tin (i := 119) (w := .instantiable RX4 4) (by decide +kernel))
        · exact u_known (n := 12) (args := #[]) hT.oks hin (hT.tin (i := 113) (w := .instantiable RX5 12) (by decide +kernel))
        · exact u_known (n := 13) (args := #[]) hT.oks hin (hT.tin (i := 105) (w := .instantiable RX6 13) (by decide +kernel))
        · exact u_known (n := 16) (args := #[]) hT.oks hin (hT.tin (i := 902) (w := .instantiable RX7 16) (by decide +kernel))
      obtain ⟨c, f, h⟩ := hex
      exact ⟨c, f, fun _ => h⟩
    · exact ⟨(0 : Nat), fun _ => 0, fun h => absurd h hk⟩
  exact ⟨fun k => Classical.choose (one k), fun k => Classical.choose (Classical.choose_spec (one k)), fun k hk => Classical.choose_spec (Classical.choose_spec (one k)) hk⟩
set_option maxRecDepth 100000 in
theorem sb_of {s : State} {b : Nat} (hT : TB s) (hts : ∀ w ∈ lw_tbl, w.before #[Value.ref b] s = true) (hg : (Jvm.Cond.and given_1 narrow_1).before #[Value.ref b] s = true) : ∃ (sa sv : Nat → Nat), sa 1 = b ∧ SB sa sv (fun q => s.heap.size ≤ q) s s.heap := by
  have hs := flat_of_before _ hg
  have hA : ∀ a : Nat, a < s.heap.size → ¬ (fun q : Nat => s.heap.size ≤ q) a := fun a h1 h2 => Nat.not_le.mpr h1 h2
  have k1 : ∀ i, i < 6 → (Cond.exactly (.string "OvenLies$Reader" (ixS.getD i 0)) "java/lang/String") ∈ flatC (Jvm.Cond.and given_1 narrow_1) := by decide +kernel
  have k2 : ∀ i, i < 6 → (Cond.eq (.field (.string "OvenLies$Reader" (ixS.getD i 0)) "java/lang/String" "coder" "B") (.int 0)) ∈ flatC (Jvm.Cond.and given_1 narrow_1) := by decide +kernel
  have k3 : ∀ i, i < 6 → (Cond.arrayOf (.field (.string "OvenLies$Reader" (ixS.getD i 0)) "java/lang/String" "value" "[B") .byte) ∈ flatC (Jvm.Cond.and given_1 narrow_1) := by decide +kernel
  have k4 : ∀ i, i < 6 → (Cond.eq (.length (.field (.string "OvenLies$Reader" (ixS.getD i 0)) "java/lang/String" "value" "[B")) (.int (Int32.ofNat (lenS.getD i 0)))) ∈ flatC (Jvm.Cond.and given_1 narrow_1) := by decide +kernel
  have k5 : ∀ i, i < 6 → ∀ j, j < lenS.getD i 0 → (Cond.eq (.elem (.field (.string "OvenLies$Reader" (ixS.getD i 0)) "java/lang/String" "value" "[B") (.int (Int32.ofNat j))) (.int ((bytS.getD i []).getD j 0))) ∈ flatC (Jvm.Cond.and given_1 narrow_1) := by decide +kernel
  have k6 : ∀ i, i < 6 → ∀ j, j < 6 → i ≠ j → (Cond.not (Cond.eq (.string "OvenLies$Reader" (ixS.getD i 0)) (.string "OvenLies$Reader" (ixS.getD j 0)))) ∈ flatC (Jvm.Cond.and given_1 narrow_1) ∨ (Cond.not (Cond.eq (.string "OvenLies$Reader" (ixS.getD j 0)) (.string "OvenLies$Reader" (ixS.getD i 0)))) ∈ flatC (Jvm.Cond.and given_1 narrow_1) := by decide +kernel
  have k7 : ∀ i, i < 6 → (Cond.stringRef "OvenLies$Reader" (ixS.getD i 0) (txS.getD i "")) ∈ lw_tbl := by decide +kernel
  obtain ⟨adK, adV, hV, hE⟩ := vk_Sof (args := #[Value.ref b]) (N := 6) (tm := fun i => (.string "OvenLies$Reader" (ixS.getD i 0))) (len := lenS) (byt := bytS) (A := fun q : Nat => s.heap.size ≤ q) (by decide +kernel) (fun i hi => hs _ (k1 i hi)) (fun i hi => hs _ (k2 i hi)) (fun i hi => hs _ (k3 i hi)) (fun i hi => hs _ (k4 i hi)) (fun i hi j hj => hs _ (k5 i hi j hj))
    (fun i j hi hj hn => (k6 i hi j hj hn).elim (fun h => Or.inl (hs _ h)) (fun h => Or.inr (hs _ h))) hA
  refine ⟨fun n => if n = 1 then b else adK (n - 2), adV, by simp, ?_, ?_, ?_, ?_⟩
  · have e : (fun i => (fun n => if n = 1 then b else adK (n - 2)) (i + 2)) = adK := by
      funext i
      show (if i + 2 = 1 then b else adK (i + 2 - 2)) = adK i
      rw [if_neg (by omega), Nat.add_sub_cancel]
    rw [e]
    exact hV
  · intro i hi
    show vk_R _ _ _ (if i + 2 = 1 then b else adK (i + 2 - 2)) s
    rw [if_neg (by omega), Nat.add_sub_cancel]
    exact vk_R.of (A := #[Value.ref b]) (hts _ (k7 i hi)) (hE i hi)
  · exact va_Zof (args := #[Value.ref b]) (hts (.laysStatic "java/lang/String" "COMPACT_STRINGS" "Z") (List.mem_of_getElem? (i := 441) (by decide +kernel))) (hT.tin (i := 100) (w := .initialized "java/lang/String") (by decide +kernel)) (va_eqi (hs _ (by decide +kernel))) hA
  · exact va_Zqof (args := #[Value.ref b]) (hts (.laysStatic "jdk/internal/util/Preconditions" "SIOOBE_FORMATTER" "Ljava/util/function/BiFunction;") (List.mem_of_getElem? (i := 457) (by decide +kernel))) (hT.tin (i := 102) (w := .initialized "jdk/internal/util/Preconditions") (by decide +kernel)) (hs _ (by decide +kernel)) hA
theorem mgt_204 : mgt 204 = (x, code, 4, some .boolean, 8, false, 1) := by rfl
theorem mcd_204 : mcd 204 = code := congrArg (fun t => t.2.1) mgt_204
