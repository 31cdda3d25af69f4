-- a step of the plain machine is a step of the machine
def AA (ad : Nat → Nat) : Nat → Prop := fun q => ∃ k, k < nCl ∧ q = ad k
def SB (sa sv : Nat → Nat) (A : Nat → Prop) (U : State) (H : Heap) : Prop :=
  vk_S 6 lenS bytS (fun i => sa (i + 2)) sv A U H ∧ (∀ i, i < 6 → vk_R "OvenLies$Reader" (ixS.getD i 0) (txS.getD i "") (sa (i + 2)) U) ∧ va_Z "java/lang/String" "COMPACT_STRINGS" "Z" (.int 1) A U H ∧ va_Zq "jdk/internal/util/Preconditions" "SIOOBE_FORMATTER" "Ljava/util/function/BiFunction;" A U H
def HB (D : va_G) (G : Nat → ClassId) (ad sa sv : Nat → Nat) (σ : SG) (U : State) : Prop :=
  va_P D vwCl (wld G ad sa σ) U.heap ∧ va_K D vwCl (tyG G) U ∧ TB U ∧ SB sa sv (AA ad) U U.heap
def rvl (ad sa : Nat → Nat) (r : AV) : Option Value := match r with
  | .inr (.inr (.inr 0)) => none
  | v => some (tv ad sa v)
def QB (D : va_G) (G : Nat → ClassId) (ad sa : Nat → Nat) (r : AV) (σ : SG) : Array Value → State → Outcome → State → Prop := fun _ st oc t =>
  (oc = .returned (rvl ad sa r) ∧ va_P D vwCl (wld G ad sa σ) t.heap) ∧ va_F (AA ad) st t
def mcw (y : Nat) : Cond := .code (mnm y) (mcd y) (mml y) (mrt y)
def rmD (d : Nat) : Room := { frames := d + 12, cells := 0, slots := 0, locals := 64 * (d + 12) }
theorem push_map (ad sa : Nat → Nat) (r : AV) (st : List AV) : (pushR r st).map (tv ad sa) = (rvl ad sa r).toList ++ st.map (tv ad sa) := by
  rcases r with a | a | k | n
  · rfl
  · rfl
  · rfl
  · cases n <;> rfl
theorem SB.narrow {sa sv : Nat → Nat} {A B : Nat → Prop} {U : State} {H : Heap} (h : SB sa sv A U H) (hAB : ∀ q, B q → A q) : SB sa sv B U H :=
  ⟨h.1.narrow hAB, h.2.1, h.2.2.1.narrow hAB, h.2.2.2.narrow hAB⟩
theorem SB.warm {sa sv : Nat → Nat} {A : Nat → Prop} {s U : State} {H : Heap} (hW : s.WarmedH U.vm) (h : SB sa sv A s H) : SB sa sv A U H :=
  ⟨h.1.moved hW.alike, fun i hi => (h.2.1 i hi).warm hW, h.2.2.1.moved hW.alike, h.2.2.2.moved hW.alike⟩
theorem SB.kept {sa sv : Nat → Nat} {A : Nat → Prop} {U : State} {H H1 : Heap} (h : SB sa sv A U H) (hq : ∀ a : Nat, a < H.size → ¬ A a → H1[a]? = H[a]?) : SB sa sv A U H1 :=
  ⟨h.1.kept hq, h.2.1, h.2.2.1.kept hq, h.2.2.2.kept hq⟩
theorem SB.calling {sa sv : Nat → Nat} {A : Nat → Prop} {U : State} (h : SB sa sv A U U.heap) (g : JFrame) (mk : MethodId) (a : Array Value) : SB sa sv A (U.calling g mk a) (U.calling g mk a).heap :=
  ⟨h.1.moved (u := U) (U := U.calling g mk a) (Vm.Alike.refl U.vm), fun i hi => vk_R.same rfl (h.2.1 i hi), h.2.2.1.moved (u := U) (U := U.calling g mk a) (Vm.Alike.refl U.vm), h.2.2.2.moved (u := U) (U := U.calling g mk a) (Vm.Alike.refl U.vm)⟩
theorem HB.blind {D : va_G} {G : Nat → ClassId} {ad sa sv : Nat → Nat} {σ : SG} {av : List Value} : FrameBlind (va_Pc av (HB D G ad sa sv σ)) := by
  intro a U g mk h
  obtain ⟨h1, h2, h3, h4, h5⟩ := h
  exact ⟨h1, h2, va_K.moved (u := U) (U := U.calling g mk a) (Vm.Alike.refl U.vm) h3, fun w hw ho => va_Nw.same (u := U) (okW_on ho) rfl (h4 w hw ho), h5.calling g mk a⟩
theorem wld_D {G : Nat → ClassId} {ad sa : Nat → Nat} {σ : SG} {A : Nat → Prop} (hi : ∀ i j, i < nCl → j < nCl → ad i = ad j → i = j) (hA : ∀ k, k < nCl → A (ad k)) : va_D A (wld G ad sa σ) := by
  have key : ∀ (i : Nat) (q : Nat × va_E), (wld G ad sa σ)[i]? = some q → i < nCl ∧ q.1 = ad i := by
    intro i q h
    have hl : i < nCl := by
      have := (List.getElem?_eq_some_iff.mp h).1
      unfold wld at this
      simpa using this
    rw [wld_get hl] at h
    cases h
    exact ⟨hl, rfl⟩
  refine ⟨fun i j p q h1 h2 e => ?_, fun k q h => ?_⟩
  · obtain ⟨a1, a2⟩ := key i p h1
    obtain ⟨b1, b2⟩ := key j q h2
    exact hi i j a1 b1 (by rw [← a2, ← b2, e])
  · obtain ⟨a1, a2⟩ := key k q h
    rw [a2]; exact hA k a1
theorem pI_ex {st : List AV} {f : Int → List AV → Prop} (h : pI st f) : ∃ a r, st = .inl a :: r ∧ f a r := by
  unfold pI at h
  split at h
  · exact ⟨_, _, rfl, h⟩
  · exact h.elim
theorem pL_ex {st : List AV} {f : Int → List AV → Prop} (h : pL st f) : ∃ a r, st = .inr (.inl a) :: r ∧ f a r := by
  unfold pL at h
  split at h
  · exact ⟨_, _, rfl, h⟩
  · exact h.elim
theorem pR_ex {st : List AV} {f : Nat → List AV → Prop} (h : pR st f) : ∃ a r, st = .inr (.inr (.inl a)) :: r ∧ f a r := by
  unfold pR at h
  split at h
  · exact ⟨_, _, rfl, h⟩
  · exact h.elim
theorem lI_ex {ls : List AV} {i : Nat} {f : Int → Prop} (h : lI ls i f) : ∃ a, ls[i]? = some (.inl a) ∧ f a := by
  unfold lI at h
  split at h
  · exact ⟨_, by assumption, h⟩
  · exact h.elim
theorem lL_ex {ls : List AV} {i : Nat} {f : Int → Prop} (h : lL ls i f) : ∃ a, ls[i]? = some (.inr (.inl a)) ∧ f a := by
  unfold lL at h
  split at h
  · exact ⟨_, by assumption, h⟩
  · exact h.elim
theorem lA_ex {ls : List AV} {i : Nat} {f : AV → Prop} {ad sa : Nat → Nat} (h : lA ls i f) : ∃ v a, ls[i]? = some v ∧ v ≠ aU ∧ tv ad sa v = .ref a ∧ f v := by
  unfold lA at h
  split at h
  · exact ⟨_, _, by assumption, (by intro z; cases z), rfl, h⟩
  · exact ⟨_, _, by assumption, (by intro z; cases z), rfl, h⟩
  · exact h.elim
theorem wbr_ex {pc : Nat} {off : Int} {f : Nat → Prop} (h : wbr pc off f) : ∃ t : Nat, (pc : Int) + off = (t : Int) ∧ f t := ⟨_, (Int.toNat_of_nonneg h.1).symm, h.2⟩
theorem n8_32 {v : Int} (h : -128 ≤ v ∧ v < 128) : (Int8.ofInt v).toInt32 = Int32.ofInt v := by
  rw [← Int32.toInt_inj, Int8.toInt_toInt32, n32_ti ⟨by omega, by omega⟩, Int8.toInt_ofInt]
  first
    | exact Int.bmod_eq_of_le (by omega) (by omega)
    | (rw [show Int8.size = 256 from rfl, Int.bmod_def]; split <;> omega)
theorem n16_32 {v : Int} (h : -32768 ≤ v ∧ v < 32768) : (Int16.ofInt v).toInt32 = Int32.ofInt v := by
  rw [← Int32.toInt_inj, Int16.toInt_toInt32, n32_ti ⟨by omega, by omega⟩, Int16.toInt_ofInt]
  first
    | exact Int.bmod_eq_of_le (by omega) (by omega)
    | (rw [show Int16.size = 65536 from rfl, Int.bmod_def]; split <;> omega)
theorem upd_ug (σ : SG) (k j : Nat) (v : Int) : upd (σ.1 k) j (Int32.ofInt v) = (ug σ k j v).1 k := by
  funext b
  simp [upd, ug]
set_option maxRecDepth 100000 in
theorem room_ar {d x r : Nat} (h1 : x ≤ 40) (h2 : 64 * (d + 13) ≤ r) : 8 + (x + 11) + 64 * (d + 12) ≤ r := by
  have e1 : 64 * (d + 13) = 64 * d + 832 := Nat.mul_add 64 d 13
  have e2 : 64 * (d + 12) = 64 * d + 768 := Nat.mul_add 64 d 12
  rw [e1] at h2
  rw [e2]
  generalize 64 * d = z at h2 ⊢
  clear e1 e2
  omega
section STEP
variable {p : Program} {l : Launch} {e : Env} {R : Room} {s : State} {m : MethodId} {args : Array Value} {below : List Frame} {meth : Method} {c : Code} {cells slots : Nat} {Z : State → Prop}
variable {ad sa sv : Nat → Nat} {D : va_G} {G : Nat → ClassId} {A : Nat → Prop} {y : Nat}
/-- what stands while the method y runs from s -/
def EnvY (p : Program) (s : State) (m : MethodId) (c : Code) (ad sa sv : Nat → Nat) (D : va_G) (G : Nat → ClassId) (A : Nat → Prop) (y : Nat) : Prop :=
  p.tables.exec = Jvm.exec ∧ c.code = mcd y ∧ c.maxLocals = mml y ∧ s.vm.findClass (cnm (mow y)) = some m.cls ∧ TB s ∧ va_K D vwCl (tyG G) s ∧ (∀ i j, i < nCl → j < nCl → ad i = ad j → i = j) ∧ (∀ k, k < nCl → A (ad k)) ∧ SB sa sv A s s.heap
theorem call_go {H : Heap} {locs : List Loc} {pc : Nat} {LS : Array Slot} {st0 rest : List Value} {a : Array Value} {r : AV} {σ' : SG} (hr : va_Run p l e R s m args below meth c H locs cells slots 0 0 (F0 m pc LS st0) rest (QB D G ad sa r σ' a) (AA ad)) (hS : va_S A s.heap H locs) (hA : ∀ k, k < nCl → A (ad k))
    (kk : ∀ (H1 : Heap) (locs1 : List Loc), va_P D vwCl (wld G ad sa σ') H1 → va_S A s.heap H1 locs1 → W p l e R s m args below meth c H1 locs1 cells slots Z (F0 m (pc + 3) LS ((rvl ad sa r).toList ++ rest))) : W p l e R s m args below meth c H locs cells slots Z (F0 m pc LS st0) := by
  have hAA : ∀ q, AA ad q → A q := by rintro q ⟨k, hk, rfl⟩; exact hA k hk
  intro T hT X
  obtain ⟨v, st₀, t, T', L, h0, X', hL, e1, e2, ⟨⟨hv, hp⟩, hz, hk⟩, st⟩ := hr T hT X
  cases hv
  rw [h0] at hz hk
  obtain ⟨t2, a1, b1⟩ := kk T'.heap (locs ++ L) (by rw [e1]; exact hp)
    ⟨Nat.le_trans hS.1 (by rw [e1]; exact hz), fun q h1 h2 => by rw [e1, hk q (Nat.lt_of_lt_of_le h1 hS.1) (fun z => h2 (hAA q z))]; exact hS.2.1 q h1 h2, fun q hq => by
      rcases List.mem_append.mp hq with h | h
      · exact hS.2.2 q h
      · exact hAA _ (hL q h)⟩ T' rfl X'
  exact ⟨t2, st t2 a1, b1⟩
/-- a call -/
theorem call_run {d : Nat} {CC : Nat → List AV → SG → AV → SG → Prop} (E : EnvY p s m c ad sa sv D G A y) (hRf : d + 13 ≤ R.frames) (hRl : 64 * (d + 13) ≤ R.locals) (hRc : cells ≤ R.cells ∧ slots ≤ R.slots)
    (IH : ∀ y' args' σ r σ', CC y' args' σ r σ' → Met l (mnm y') [mcw y'] (rmD d) (va_Pc (args'.map (tv ad sa)) (HB D G ad sa sv σ)) (QB D G ad sa r σ') 0 0 (AA ad))
    {H : Heap} {locs : List Loc} {pc idx : Nat} {LS : Array Slot} {st : List AV} {σ : SG} {vir : Bool} {k : AV → SG → List AV → Prop} (h : wcall (calC CC) (mow y) idx vir st σ k)
    (hd : decode (mcd y) pc = .ok (if vir then .invokevirtual idx else .invokestatic idx, 3)) (hLS : LS.size = mml y) (hP : va_P D vwCl (wld G ad sa σ) H) (hS : va_S A s.heap H locs)
    (kk : ∀ (r : AV) (σ' : SG) (rest : List AV) (H1 : Heap) (locs1 : List Loc), k r σ' rest → va_P D vwCl (wld G ad sa σ') H1 → va_S A s.heap H1 locs1 → W p l e R s m args below meth c H1 locs1 cells slots Z (F0 m (pc + 3) LS ((pushR r rest).map (tv ad sa)))) :
    W p l e R s m args below meth c H locs cells slots Z (F0 m pc LS (st.map (tv ad sa))) := by
  obtain ⟨hx, hb, hml, hown, hT, hK, hinj, hA, hSB⟩ := E
  have hAA : ∀ q, AA ad q → A q := by rintro q ⟨k, hk, rfl⟩; exact hA k hk
  unfold wcall at h
  split at h
  case h_2 => exact h.elim
  case h_1 q hq =>
  obtain ⟨hv, hn, hw, r, σ', hC, hk⟩ := h
  have hmem := List.mem_of_find?_eq_some hq
  have hpred := List.find?_some hq
  have hok := List.all_eq_true.mp caOK_all q hmem
  simp only [Bool.and_eq_true, beq_iff_eq] at hpred
  obtain ⟨hq1, hq2⟩ := hpred
  subst hq2
  unfold caOK at hok
  simp only [Bool.and_eq_true, decide_eq_true_eq] at hok
  obtain ⟨⟨⟨⟨⟨⟨⟨⟨hy1, hml1⟩, hcls⟩, hlen⟩, hlink⟩, hcode⟩, hinst⟩, hini⟩, hk4⟩ := hok
  have hcw := cdK_all hy1.1 hy1.2
  have hM := IH _ _ _ _ _ hC
  generalize hargs : (st.take (mna q.2.2.1)).reverse = as at hC hM hv
  generalize hrest : st.drop (mna q.2.2.1) = rest at hw hk
  have est : st.map (tv ad sa) = (as.map (tv ad sa)).reverse ++ rest.map (tv ad sa) := by
    rw [← hargs, ← hrest, ← List.map_reverse, List.reverse_reverse, ← List.map_append, List.take_append_drop]
  have haslen : as.length = mna q.2.2.1 := by rw [← hargs, List.length_reverse, List.length_take]; omega
  have hcat : ((rest.map (tv ad sa)).map fun v => v.category).sum = stw rest := by
    clear hw hrest hk est
    induction rest with
    | nil => rfl
    | cons a r ih => simp only [List.map_cons, List.sum_cons, ih, tv_cat, stw]
  have hroom : 2 * (F0 m pc LS (st.map (tv ad sa))).monitorRoom + ((rest.map (tv ad sa)).map fun v => v.category).sum ≤ 8 := by
    have := lv_room (m := m) (pc := pc) (ls := LS) (rest := st.map (tv ad sa)) (st := rest.map (tv ad sa)) (by rw [hcat]; exact hw)
    exact this
  have hpay : ∀ w ∈ [mcw q.2.2.1], ∀ (a' : Array Value) (U : State), s.WarmedH U.vm → w.before a' U = true := by
    intro w hw1 a' U hW
    rw [List.mem_singleton.mp hw1]
    exact (hT.warm hW).at hcw rfl
  have hPc : ∀ U : State, U.heap = H → s.WarmedH U.vm → va_Pc (as.map (tv ad sa)) (HB D G ad sa sv σ) ((as.map (tv ad sa)).toArray) U := by
    intro U hU hW
    refine ⟨rfl, by rw [hU]; exact hP, va_K.moved hW.alike hK, hT.warm hW, ?_⟩
    rw [hU]
    exact ((hSB.kept hS.2.1).narrow hAA).warm hW
  have hcodeb : ∀ (a' : Array Value), (Cond.code (mnm q.2.2.1) (mcd q.2.2.1) (mml q.2.2.1) (mrt q.2.2.1)).before a' s = true := fun a' => hT.at hcw rfl
  have hloc : 8 + (mml q.2.2.1 + 11) + (rmD d).locals ≤ R.locals := by
    exact room_ar hml1 hRl
  have hfr : (rmD d).frames + 1 ≤ R.frames := hRf
  have hf : cells + 0 ≤ R.cells ∧ slots + 0 ≤ R.slots := hRc
  rw [est]
  have go : ∀ {a : Array Value}, va_Run p l e R s m args below meth c H locs cells slots 0 0 (F0 m pc LS ((as.map (tv ad sa)).reverse ++ rest.map (tv ad sa))) (rest.map (tv ad sa)) (QB D G ad sa r σ' a) (AA ad) → W p l e R s m args below meth c H locs cells slots Z (F0 m pc LS ((as.map (tv ad sa)).reverse ++ rest.map (tv ad sa))) := by
    intro a hr
    refine call_go hr hS hA (fun H1 locs1 hP1 hS1 => ?_)
    rw [← push_map]
    exact kk r σ' rest H1 locs1 hk hP1 hS1
  rw [est] at hroom
  cases vir with
  | false =>
    simp only [Bool.false_eq_true, if_false] at hv hd
    rw [if_pos hv] at hinst hlen
    have hn' : ∀ sig, parseMethodDescriptor (mnm q.2.2.1).desc = some sig → (as.map (tv ad sa)).length = sig.parameters.length := by
      intro sig hs
      rw [hs] at hlen
      simp only [Option.map_some, Option.some.injEq, Nat.add_zero] at hlen
      rw [List.length_map, haslen, hlen]
    by_cases hnest : q.2.2.2.1 = 1 ∨ q.2.2.2.1 = 3
    · rw [if_pos hnest, hq1] at hlink
      exact go (va_runSN (Ts := []) (host := "OvenLies") (As := as.map (tv ad sa)) ⟨hx, hb, hml, hown, fun _ h => by cases h⟩ hM
        ⟨⟨⟨rfl, rfl, hfr, hloc, hpay, List.mem_singleton.mpr rfl⟩, hcodeb _, hT.tin hini, hcls, hn', hT.tin hlink⟩, hT.tin hinst, trivial⟩ ⟨HB.blind, hPc⟩ rfl rfl hLS rfl hroom hd hf)
    · rw [if_neg hnest, hq1] at hlink
      exact go (va_runS (Ts := []) (As := as.map (tv ad sa)) ⟨hx, hb, hml, hown, fun _ h => by cases h⟩ hM
        ⟨⟨rfl, rfl, hfr, hloc, hpay, List.mem_singleton.mpr rfl, hcodeb _, hT.tin hini, hcls, hn', hT.tin hlink⟩, hT.tin hinst⟩ ⟨HB.blind, hPc⟩ rfl rfl hLS rfl hroom hd hf)
  | true =>
    simp only [if_true] at hv hd
    obtain ⟨hkd, hrc⟩ := hv
    rw [if_neg (by omega)] at hinst hlen
    rw [Bool.and_eq_true] at hinst
    cases as with
    | nil => exact hrc.elim
    | cons v0 as =>
    obtain ⟨b, hb0, hcell⟩ : ∃ b, tv ad sa v0 = .ref b ∧ ∃ cellB : Cell, H[b]? = some cellB ∧ cellB.vm.isStatics = false ∧ s.vm.findClass (mnm q.2.2.1).cls = some cellB.cls := by
      rcases v0 with a | a | k0 | n
      · exact hrc.elim
      · exact hrc.elim
      · obtain ⟨h1, h2⟩ : shC k0 = mow q.2.2.1 ∧ shC k0 < 8 := hrc
        refine ⟨_, rfl, ?_⟩
        rw [mow_cls _ hy1.1 (by omega)]
        exact va_recv hK hP (vwCl_at (ci := mow q.2.2.1) (by omega)) (by rw [wld_get (shC_lt (k := k0) (by omega)), celE_obj h1 (by omega)])
      · cases n with
        | zero => exact hrc.elim
        | succ n =>
          cases n with
          | zero => exact hrc.elim
          | succ n =>
            obtain ⟨h1, h2⟩ : n < 6 ∧ (q.2.2.1 = 205 ∨ q.2.2.1 = 206) := hrc
            refine ⟨_, rfl, ?_⟩
            rw [mow_str _ h2]
            exact vk_recv (i := n) hSB.1 h1 hS
    have eas : ((v0 :: as).map (tv ad sa)) = .ref b :: as.map (tv ad sa) := by rw [List.map_cons, hb0]
    rw [eas] at hPc hM
    have hn' : ∀ sig, parseMethodDescriptor (mnm q.2.2.1).desc = some sig → (as.map (tv ad sa)).length = sig.parameters.length := by
      intro sig hs
      rw [hs] at hlen
      simp only [Option.map_some, Option.some.injEq] at hlen
      rw [List.length_map]
      rw [List.length_cons] at haslen
      omega
    have estk : ((v0 :: as).map (tv ad sa)).reverse ++ rest.map (tv ad sa) = (as.map (tv ad sa)).reverse ++ .ref b :: rest.map (tv ad sa) := by
      rw [eas, List.reverse_cons, List.append_assoc]; rfl
    by_cases hnest : q.2.2.2.1 = 1 ∨ q.2.2.2.1 = 3
    · rw [if_pos hnest, hq1] at hlink
      exact go (va_runVN (Ts := []) (host := "OvenLies") (As := as.map (tv ad sa)) ⟨hx, hb, hml, hown, fun _ h => by cases h⟩ hM
        ⟨⟨⟨rfl, rfl, hfr, hloc, hpay, List.mem_singleton.mpr rfl⟩, hcodeb _, hT.tin hini, hcls, hn', hT.tin hlink⟩, hT.tin hinst.1, hT.tin hinst.2⟩ ⟨HB.blind, hcell, hPc⟩ rfl rfl hLS estk hroom hd hf)
    · rw [if_neg hnest, hq1] at hlink
      exact go (va_runV (Ts := []) (As := as.map (tv ad sa)) ⟨hx, hb, hml, hown, fun _ h => by cases h⟩ hM
        ⟨⟨rfl, rfl, hfr, hloc, hpay, List.mem_singleton.mpr rfl, hcodeb _, hT.tin hini, hcls, hn', hT.tin hlink⟩, hT.tin hinst.1, hT.tin hinst.2⟩ ⟨HB.blind, hcell, hPc⟩ rfl rfl hLS estk hroom hd hf)
end STEP
