-- every step, and every run
theorem cmp_if {P Q : Prop} {c : ClassFile.Cond} {a b : Int} (h : if cmpI c a b = true then P else Q) : (cmpI c a b = true → P) ∧ (¬ cmpI c a b = true → Q) := by
  refine ⟨fun q => ?_, fun q => ?_⟩
  · rwa [if_pos q] at h
  · rwa [if_neg q] at h
theorem fr_ok {own idx : Nat} {q : Nat × Nat × Nat × Nat × Nat × Nat × Nat} (hq : frF own idx = some q) : q.1 = own ∧ q.2.1 = idx ∧ frOK q = true := by
  have h1 := List.mem_of_find?_eq_some hq
  have h2 := List.find?_some hq
  simp only [Bool.and_eq_true, beq_iff_eq] at h2
  exact ⟨h2.1, h2.2, List.all_eq_true.mp frOK_all q h1⟩
theorem kl_ok {own idx : Nat} {q : Nat × Nat × Int × Nat} (hq : klF own idx = some q) : tbl_in q.2.2.2 (.constantLong (cnm own) idx (Int64.ofInt q.2.2.1)) = true := by
  have h1 := List.mem_of_find?_eq_some hq
  have h2 := List.find?_some hq
  simp only [Bool.and_eq_true, beq_iff_eq] at h2
  have h3 := List.all_eq_true.mp klOK_all q h1
  rw [← h2.1, ← h2.2]
  exact h3
theorem ki_ok {own idx : Nat} {q : Nat × Nat × Int × Nat} (hq : kiF own idx = some q) : tbl_in q.2.2.2 (.constant (cnm own) idx (Int32.ofInt q.2.2.1)) = true := by
  have h1 := List.mem_of_find?_eq_some hq
  have h2 := List.find?_some hq
  simp only [Bool.and_eq_true, beq_iff_eq] at h2
  have h3 := List.all_eq_true.mp kiOK_all q h1
  rw [← h2.1, ← h2.2]
  exact h3
theorem ks_all : ksTab.all (fun e => decide (e.2.1 < 6) && decide (ixS.getD e.2.1 0 = e.1)) = true := by decide +kernel
theorem ks_ok {own idx : Nat} {q : Nat × Nat × Nat} (hq : ksF own idx = some q) : own = 2 ∧ q.2.1 < 6 ∧ ixS.getD q.2.1 0 = idx := by
  unfold ksF at hq
  split at hq
  · rename_i ho
    have h1 := List.mem_of_find?_eq_some hq
    have h2 := List.find?_some hq
    simp only [beq_iff_eq] at h2
    have h3 := List.all_eq_true.mp ks_all q h1
    simp only [Bool.and_eq_true, decide_eq_true_eq] at h3
    exact ⟨ho, h3.1, by rw [h3.2, h2]⟩
  · cases hq
theorem cft_bool : ∀ ci, ci < 8 → ∀ j, j < cnf ci → ((cft ci).getD j 0 = 0 → (cty ci j) = .int) ∧ ((cft ci).getD j 0 = 1 → (cty ci j) = .boolean) ∧ ((cft ci).getD j 0 = 2 → (cty ci j) = .long) := by decide +kernel
theorem nar_b {v : Int} (h : v = 0 ∨ v = 1) : narrow .boolean (.int (Int32.ofInt v)) = .int (Int32.ofInt v) ∧ fits .boolean (.int (Int32.ofInt v)) = true ∧ vp_nar .boolean (Int32.ofInt v) = Int32.ofInt v := by
  rcases h with rfl | rfl <;> decide +kernel
theorem nar_c {v : Int} (h : 0 ≤ v ∧ v < 65536) : (Int32.ofInt v).toUInt32.toUInt16.toUInt32.toInt32 = Int32.ofInt v :=
  lg_i2c_small (by rw [n32_ti ⟨by omega, by omega⟩]; exact h.1) (by rw [n32_ti ⟨by omega, by omega⟩]; exact h.2)
theorem set_fld {ad sa : Nat → Nat} {σ σ' : SG} {k n j : Nat} (h : ∀ i, i ≠ j → fAV σ k i = fAV σ' k i) : ((List.range n).map fun j => tv ad sa (fAV σ k j)).set j (tv ad sa (fAV σ' k j)) = (List.range n).map fun j => tv ad sa (fAV σ' k j) :=
  map_set n j (fun j => tv ad sa (fAV σ k j)) (fun j => tv ad sa (fAV σ' k j)) (fun i hi => by simp only [h i hi])
section RUN
variable {p : Program} {l : Launch} {e : Env} {R : Room} {s : State} {m : MethodId} {args : Array Value} {below : List Frame} {meth : Method} {c : Code} {cells slots : Nat} {Z : State → Prop}
variable {ad sa sv : Nat → Nat} {D : va_G} {G : Nat → ClassId} {A : Nat → Prop} {y : Nat} {X : XS}
/-- the script, where there is one -/
def ScrX (sa : Nat → Nat) (A : Nat → Prop) (s : State) (X : XS) : Prop := match X with
  | some q => va_X (sa 1) q.1 q.2 s s.heap ∧ sa 1 < s.heap.size ∧ ¬ A (sa 1) ∧ q.1 ≤ 3072
  | none => True
set_option maxHeartbeats 4000000 in
set_option maxRecDepth 100000 in
theorem step_run {d : Nat} {CC : Nat → List AV → SG → AV → SG → Prop} (E : EnvY p s m c ad sa sv D G A y) (hX : ScrX sa A s X) (hRf : d + 13 ≤ R.frames) (hRl : 64 * (d + 13) ≤ R.locals) (hRc : cells ≤ R.cells ∧ slots ≤ R.slots)
    (IH : ∀ y' args' σ r σ', CC y' args' σ r σ' → Met l (mnm y') [mcw y'] (rmD d) (va_Pc (args'.map (tv ad sa)) (HB D G ad sa sv σ)) (QB D G ad sa r σ') 0 0 (AA ad))
    {Q : AV → SG → Prop} {Kp : Nat → List AV → List AV → SG → Prop}
    (hK : ∀ pc' ls' st' σ' H' locs' LS', Kp pc' ls' st' σ' → LV ad sa y LS' ls' → va_P D vwCl (wld G ad sa σ') H' → va_S A s.heap H' locs' → W p l e R s m args below meth c H' locs' cells slots Z (F0 m pc' LS' (st'.map (tv ad sa))))
    (hI : ∀ pc a σ' H' locs' LS', decode (mcd y) pc = .ok (.ireturn, 1) → retI y a → Q (.inl a) σ' → va_P D vwCl (wld G ad sa σ') H' → va_S A s.heap H' locs' → W p l e R s m args below meth c H' locs' cells slots Z (F0 m pc LS' [.int (Int32.ofInt a)]))
    (hJ : ∀ pc a σ' H' locs' LS', decode (mcd y) pc = .ok (.lreturn, 1) → mrt y = some .long → Q (.inr (.inl a)) σ' → va_P D vwCl (wld G ad sa σ') H' → va_S A s.heap H' locs' → W p l e R s m args below meth c H' locs' cells slots Z (F0 m pc LS' [.long (Int64.ofInt a)]))
    (hV : ∀ pc σ' H' locs' LS', decode (mcd y) pc = .ok (.return_, 1) → mrt y = none → Q aU σ' → va_P D vwCl (wld G ad sa σ') H' → va_S A s.heap H' locs' → W p l e R s m args below meth c H' locs' cells slots Z (F0 m pc LS' []))
    {i : Instr} {n pc : Nat} {ls st : List AV} {σ : SG} {H : Heap} {locs : List Loc} {LS : Array Slot} (hdec : decode (mcd y) pc = .ok (i, n)) (hok : okL i n = true) (h : wstep X (calC CC) y pc ls st σ Q Kp i)
    (hL : LV ad sa y LS ls) (hP : va_P D vwCl (wld G ad sa σ) H) (hS : va_S A s.heap H locs) : W p l e R s m args below meth c H locs cells slots Z (F0 m pc LS (st.map (tv ad sa))) := by
  have E' := E
  obtain ⟨hx, hb, hml, hown, hT, hKK, hinj, hA, hSB⟩ := E
  have hD : va_D A (wld G ad sa σ) := wld_D hinj hA
  have hlook : ∀ {i : Nat} {v : AV}, ls[i]? = some v → v ≠ aU → LS[i]? = some (Slot.val (tv ad sa v)) := fun h1 h2 => hL.2.2.2.2 _ _ h1 h2
  have hlen : ls.length = mml y := hL.2.2.1
  have getf : ∀ {idx : Nat} {k : Nat} {r : List AV} {q : Nat × Nat × Nat × Nat × Nat × Nat × Nat}, frF (mow y) idx = some q → shC k = q.2.2.1 → decode (mcd y) pc = .ok (.getfield idx, 3) → Kp (pc + 3) ls (fAV σ k q.2.2.2.1 :: r) σ →
      W p l e R s m args below meth c H locs cells slots Z (F0 m pc LS (.ref (ad k) :: r.map (tv ad sa))) := by
    intro idx k r q hq hk hd2 hk2
    obtain ⟨ho, hi, hf⟩ := fr_ok hq
    unfold frOK at hf
    simp only [Bool.and_eq_true, decide_eq_true_eq] at hf
    obtain ⟨⟨⟨⟨hc8, hj⟩, hdc⟩, hfin⟩, hlink⟩ := hf
    have hw := wld_get (G := G) (ad := ad) (sa := sa) (σ := σ) (k := k) (shC_lt (by omega))
    rw [celE_obj hk hc8] at hw
    by_cases hn : q.2.2.2.2.2.1 = 1
    · rw [if_pos hn, ho, hi] at hlink
      exact va_getN (host := "OvenLies") (C := cnm q.2.2.1) (T := ctt q.2.2.1) (N := cnf q.2.2.1) hx hb (hT.oks) (u_ok _ hc8) hown hKK hP k hw (vwCl_at hc8) q.2.2.2.1 hj (hT.tin hlink) (by rw [hdc]; exact fun _ h9 => h9) (cel_fld hj) hd2 (hK _ _ _ _ _ _ _ hk2 hL hP hS)
    · rw [if_neg hn, ho, hi] at hlink
      exact va_get (C := cnm q.2.2.1) (T := ctt q.2.2.1) (N := cnf q.2.2.1) hx hb (hT.oks) (u_ok _ hc8) hown hKK hP k hw (vwCl_at hc8) q.2.2.2.1 hj (hT.tin hlink) (by rw [hdc]; exact fun _ h9 => h9) (cel_fld hj) hd2 (hK _ _ _ _ _ _ _ hk2 hL hP hS)
  have putf : ∀ {idx : Nat} {k : Nat} {r : List AV} {σ' : SG} {q : Nat × Nat × Nat × Nat × Nat × Nat × Nat}, frF (mow y) idx = some q → q.2.2.2.2.1 = 0 → shC k = q.2.2.1 → decode (mcd y) pc = .ok (.putfield idx, 3) →
      narrow (cty q.2.2.1 q.2.2.2.1) (tv ad sa (fAV σ' k q.2.2.2.1)) = tv ad sa (fAV σ' k q.2.2.2.1) → fits (cty q.2.2.1 q.2.2.2.1) (tv ad sa (fAV σ' k q.2.2.2.1)) = true →
      (∀ i, i ≠ k → celE G ad sa σ i = celE G ad sa σ' i) → (∀ i, i ≠ q.2.2.2.1 → fAV σ k i = fAV σ' k i) → Kp (pc + 3) ls r σ' →
      W p l e R s m args below meth c H locs cells slots Z (F0 m pc LS (tv ad sa (fAV σ' k q.2.2.2.1) :: .ref (ad k) :: r.map (tv ad sa))) := by
    intro idx k r σ' q hq hfi hk hd2 hnar hfit hoth hfl hk2
    obtain ⟨ho, hi, hf⟩ := fr_ok hq
    unfold frOK at hf
    simp only [Bool.and_eq_true, decide_eq_true_eq] at hf
    obtain ⟨⟨⟨⟨hc8, hj⟩, hdc⟩, hfin⟩, hlink⟩ := hf
    have hfin' : (ctt q.2.2.1 q.2.2.2.1).2.2.2 = false := by
      rw [hfi] at hfin
      simpa using hfin
    have hw := wld_get (G := G) (ad := ad) (sa := sa) (σ := σ) (k := k) (shC_lt (by omega))
    rw [celE_obj hk hc8] at hw
    have hset : ∀ (H1 : Heap) (locs1 : List Loc), va_P D vwCl ((wld G ad sa σ).set k (ad k, .inr (q.2.2.1, ((List.range (cnf q.2.2.1)).map fun j => tv ad sa (fAV σ k j)).set q.2.2.2.1 (tv ad sa (fAV σ' k q.2.2.2.1))))) H1 → va_S A s.heap H1 locs1 → W p l e R s m args below meth c H1 locs1 cells slots Z (F0 m (pc + 3) LS (r.map (tv ad sa))) := by
      intro H1 locs1 hP1 hS1
      rw [set_fld hfl, wld_set hoth (by rw [celE_obj hk hc8])] at hP1
      exact hK _ _ _ _ _ _ _ hk2 hL hP1 hS1
    by_cases hn : q.2.2.2.2.2.1 = 1
    · rw [if_pos hn, ho, hi] at hlink
      exact va_putN (host := "OvenLies") (C := cnm q.2.2.1) (T := ctt q.2.2.1) (N := cnf q.2.2.1) hx hb (hT.oks) (u_ok _ hc8) (cty q.2.2.1) (cty_ok _ hc8) (cnm_ok _ hc8) hown hKK hP hD hS k hw (vwCl_at hc8) q.2.2.2.1 hj (hT.tin hlink) (by rw [hdc]; exact fun _ h9 => h9) hfin' (cty_ok _ hc8 _ hj) hnar hfit (by rw [List.length_map, List.length_range]; exact hj) hd2 (fun H1 locs1 hP1 _ hS1 => hset H1 locs1 hP1 hS1)
    · rw [if_neg hn, ho, hi] at hlink
      exact va_put (C := cnm q.2.2.1) (T := ctt q.2.2.1) (N := cnf q.2.2.1) hx hb (hT.oks) (u_ok _ hc8) (cty q.2.2.1) (cty_ok _ hc8) (cnm_ok _ hc8) hown hKK hP hD hS k hw (vwCl_at hc8) q.2.2.2.1 hj (hT.tin hlink) (by rw [hdc]; exact fun _ h9 => h9) hfin' (cty_ok _ hc8 _ hj) hnar hfit (by rw [List.length_map, List.length_range]; exact hj) hd2 (fun H1 locs1 hP1 _ hS1 => hset H1 locs1 hP1 hS1)
  have arrw : ∀ {k t : Nat}, shC k = 100 + t → t < 3 → (wld G ad sa σ)[k]? = some (ad k, .inl (G t, shL k, .inl (σ.1 k))) := by
    intro k t h1 h2
    rw [wld_get (shC_lt (by omega)), celE_arr h1 h2]
  have ald : ∀ {k t : Nat} {i : Int}, shC k = 100 + t → 0 ≤ i ∧ i < (shL k : Int) → vp_in (Int32.ofInt i) (shL k) ∧ tv ad sa (.inl (gg σ k i.toNat)) = .int (σ.1 k (Int32.ofInt i).toNatClampNeg) := by
    intro k t i h1 h2
    have h3 := shL_le k
    refine ⟨n32_vin h2.1 h2.2 (by omega), ?_⟩
    rw [n32_cl h2.1 (by omega)]
    show Value.int (Int32.ofInt (σ.1 k i.toNat).toInt) = _
    rw [n32_ot]
  have ast : ∀ {k t : Nat} {i v : Int} {r : List AV} {H1 : Heap} {locs1 : List Loc}, shC k = 100 + t → t < 3 → 0 ≤ i ∧ i < (shL k : Int) → Kp (pc + 1) ls r (ug σ k i.toNat v) →
      va_P D vwCl ((wld G ad sa σ).set k (ad k, .inl (G t, shL k, .inl (upd (σ.1 k) (Int32.ofInt i).toNatClampNeg (Int32.ofInt v))))) H1 → va_S A s.heap H1 locs1 → W p l e R s m args below meth c H1 locs1 cells slots Z (F0 m (pc + 1) LS (r.map (tv ad sa))) := by
    intro k t i v r H1 locs1 h1 h2 h3 hk hP1 hS1
    have h4 := shL_le k
    rw [n32_cl h3.1 (by omega), upd_ug, wld_set (σ' := ug σ k i.toNat v) (fun i hi => celE_ug hi) (by rw [celE_arr h1 h2])] at hP1
    exact hK _ _ _ _ _ _ _ hk hL hP1 hS1
  cases i with
  | iconst v =>
    cases (show n = 1 from beq_iff_eq.mp hok)
    exact lv_iconst hx hb hdec rfl (hK _ _ _ _ _ _ _ h.2 hL hP hS)
  | bipush v =>
    cases (show n = 2 from beq_iff_eq.mp hok)
    exact lv_bipush hx hb hdec (n8_32 h.1) (hK _ _ _ _ _ _ _ h.2 hL hP hS)
  | sipush v =>
    cases (show n = 3 from beq_iff_eq.mp hok)
    exact lv_sipush hx hb hdec (n16_32 h.1) (hK _ _ _ _ _ _ _ h.2 hL hP hS)
  | lconst v =>
    cases (show n = 1 from beq_iff_eq.mp hok)
    exact lv_lconst hx hb hdec (n64_nat _).symm (hK _ _ _ _ _ _ _ h hL hP hS)
  | ldc idx =>
    cases (show n = 2 from beq_iff_eq.mp hok)
    simp only [wstep] at h
    split at h
    · rename_i q hq
      exact lv_ldc hx hb hown (hT.tin (ki_ok hq)) hdec (hK _ _ _ _ _ _ _ h hL hP hS)
    · split at h
      · rename_i q hq
        obtain ⟨h2, h3, h4⟩ := ks_ok hq
        have hz := hSB.2.1 _ h3
        rw [h4] at hz
        rw [h2] at hown
        exact va_ldcS hx hb hown hz hdec (hK _ _ _ _ _ _ _ h hL hP hS)
      · exact h.elim
  | ldc_w idx =>
    cases (show n = 3 from beq_iff_eq.mp hok)
    simp only [wstep] at h
    split at h
    · rename_i q hq
      exact lv_ldcw hx hb hown (hT.tin (ki_ok hq)) hdec (hK _ _ _ _ _ _ _ h hL hP hS)
    · exact h.elim
  | ldc2_w idx =>
    cases (show n = 3 from beq_iff_eq.mp hok)
    simp only [wstep] at h
    split at h
    · rename_i q hq
      exact lv_ldc2 hx hb hown (hT.tin (kl_ok hq)) hdec (hK _ _ _ _ _ _ _ h hL hP hS)
    · exact h.elim
  | iload_n k =>
    cases (show n = 1 from beq_iff_eq.mp hok)
    obtain ⟨a, h1, h2⟩ := lI_ex h
    exact lv_iload_n hx hb hdec rfl (hlook h1 (by intro z; cases z)) (hK _ _ _ _ _ _ _ h2 hL hP hS)
  | iload k =>
    cases (show n = 2 from beq_iff_eq.mp hok)
    obtain ⟨a, h1, h2⟩ := lI_ex h
    exact lv_iload hx hb hdec (hlook h1 (by intro z; cases z)) (hK _ _ _ _ _ _ _ h2 hL hP hS)
  | lload_n k =>
    cases (show n = 1 from beq_iff_eq.mp hok)
    obtain ⟨a, h1, h2⟩ := lL_ex h
    exact lv_lload_n hx hb hdec rfl (hlook h1 (by intro z; cases z)) (hK _ _ _ _ _ _ _ h2 hL hP hS)
  | lload k =>
    cases (show n = 2 from beq_iff_eq.mp hok)
    obtain ⟨a, h1, h2⟩ := lL_ex h
    exact lv_lload hx hb hdec (hlook h1 (by intro z; cases z)) (hK _ _ _ _ _ _ _ h2 hL hP hS)
  | aload_n k =>
    cases (show n = 1 from beq_iff_eq.mp hok)
    obtain ⟨v, a, h1, h2, h3, h4⟩ := lA_ex (ls := ls) (i := k.val) (f := fun a => Kp (pc + 1) ls (a :: st) σ) (ad := ad) (sa := sa) h
    have h5 := hK _ _ _ _ _ _ _ h4 hL hP hS
    rw [List.map_cons, h3] at h5
    exact lv_aload_n hx hb hdec rfl (by rw [hlook h1 h2, h3]) h5
  | aload k =>
    cases (show n = 2 from beq_iff_eq.mp hok)
    obtain ⟨v, a, h1, h2, h3, h4⟩ := lA_ex (ls := ls) (i := k) (f := fun a => Kp (pc + 2) ls (a :: st) σ) (ad := ad) (sa := sa) h
    have h5 := hK _ _ _ _ _ _ _ h4 hL hP hS
    rw [List.map_cons, h3] at h5
    exact lv_aload hx hb hdec (by rw [hlook h1 h2, h3]) h5
  | istore_n k =>
    cases (show n = 1 from beq_iff_eq.mp hok)
    obtain ⟨a, r, rfl, h1, h2, h3⟩ := pI_ex h
    exact lv_istore_n hx hb hdec rfl hL.has (by rw [← hlen]; exact h1) rfl (fun LS' hh => hK _ _ _ _ _ _ _ h3 (hL.st1 h2 rfl rfl hh) hP hS)
  | istore k =>
    cases (show n = 2 from beq_iff_eq.mp hok)
    obtain ⟨a, r, rfl, h1, h2, h3⟩ := pI_ex h
    exact lv_istore hx hb hdec hL.has (by rw [← hlen]; exact h1) rfl (fun LS' hh => hK _ _ _ _ _ _ _ h3 (hL.st1 h2 rfl rfl hh) hP hS)
  | lstore_n k =>
    cases (show n = 1 from beq_iff_eq.mp hok)
    obtain ⟨a, r, rfl, h1, h2, h3, h4⟩ := pL_ex h
    exact lv_lstore_n hx hb hdec rfl hL.has (by rw [← hlen]; exact h1) rfl (fun LS' hh => hK _ _ _ _ _ _ _ h4 (hL.st2 h2 h3 rfl hh) hP hS)
  | lstore k =>
    cases (show n = 2 from beq_iff_eq.mp hok)
    obtain ⟨a, r, rfl, h1, h2, h3, h4⟩ := pL_ex h
    exact lv_lstore hx hb hdec hL.has (by rw [← hlen]; exact h1) rfl (fun LS' hh => hK _ _ _ _ _ _ _ h4 (hL.st2 h2 h3 rfl hh) hP hS)
  | astore_n k =>
    cases (show n = 1 from beq_iff_eq.mp hok)
    obtain ⟨a, r, rfl, h1, h2, h3⟩ := pR_ex h
    exact lv_astore_n hx hb hdec rfl hL.has (by rw [← hlen]; exact h1) rfl (fun LS' hh => hK _ _ _ _ _ _ _ h3 (hL.st1 h2 rfl rfl hh) hP hS)
  | astore k =>
    cases (show n = 2 from beq_iff_eq.mp hok)
    obtain ⟨a, r, rfl, h1, h2, h3⟩ := pR_ex h
    exact lv_astore hx hb hdec hL.has (by rw [← hlen]; exact h1) rfl (fun LS' hh => hK _ _ _ _ _ _ _ h3 (hL.st1 h2 rfl rfl hh) hP hS)
  | iinc k v =>
    cases (show n = 3 from beq_iff_eq.mp hok)
    obtain ⟨a, h1, h2, h3, h4⟩ := lI_ex h
    obtain ⟨j, hj⟩ := List.getElem?_of_mem (lvl_mem (ad := ad) (sa := sa) (ls := ls) (q := (k, tv ad sa (.inl a))).mpr ⟨_, h1, (by intro z; cases z), rfl⟩)
    exact lv_iinc hx hb hdec hL.has hj (n32_add _ _) (by rw [← hlen]; exact h2) rfl (fun LS' hh => hK _ _ _ _ _ _ _ h4 (hL.st1 h3 rfl rfl hh) hP hS)
  | iadd =>
    cases (show n = 1 from beq_iff_eq.mp hok)
    obtain ⟨b, r, rfl, h⟩ := pI_ex h
    obtain ⟨a, r, rfl, h⟩ := pI_ex h
    exact lv_iadd hx hb hdec (by rw [n32_add]; exact hK _ _ _ _ _ _ _ h hL hP hS)
  | isub =>
    cases (show n = 1 from beq_iff_eq.mp hok)
    obtain ⟨b, r, rfl, h⟩ := pI_ex h
    obtain ⟨a, r, rfl, h⟩ := pI_ex h
    exact lv_isub hx hb hdec (by rw [n32_sub]; exact hK _ _ _ _ _ _ _ h hL hP hS)
  | imul =>
    cases (show n = 1 from beq_iff_eq.mp hok)
    obtain ⟨b, r, rfl, h⟩ := pI_ex h
    obtain ⟨a, r, rfl, h⟩ := pI_ex h
    exact lv_imul hx hb hdec (by rw [n32_mul]; exact hK _ _ _ _ _ _ _ h hL hP hS)
  | idiv =>
    cases (show n = 1 from beq_iff_eq.mp hok)
    obtain ⟨b, r, rfl, h⟩ := pI_ex h
    obtain ⟨a, r, rfl, ⟨h1, h2, h3, h4⟩, h⟩ := pI_ex h
    exact lv_idiv hx hb hdec (by rw [n32_0, n32_eq ⟨by omega, by omega⟩ ⟨by omega, by omega⟩]; omega) (by rw [n32_div h1 h2 h3 h4]; exact hK _ _ _ _ _ _ _ h hL hP hS)
  | irem =>
    cases (show n = 1 from beq_iff_eq.mp hok)
    obtain ⟨b, r, rfl, h⟩ := pI_ex h
    obtain ⟨a, r, rfl, ⟨h1, h2, h3, h4⟩, h⟩ := pI_ex h
    exact lv_irem hx hb hdec (by rw [n32_0, n32_eq ⟨by omega, by omega⟩ ⟨by omega, by omega⟩]; omega) (by rw [n32_rem h1 h2 h3 h4]; exact hK _ _ _ _ _ _ _ h hL hP hS)
  | iand =>
    cases (show n = 1 from beq_iff_eq.mp hok)
    obtain ⟨b, r, rfl, h⟩ := pI_ex h
    obtain ⟨a, r, rfl, hab, h⟩ := pI_ex h
    refine lv_iand hx hb hdec ?_
    by_cases h63 : b = 63
    · rw [if_pos h63] at h
      rw [h63, n32_63]
      exact hK _ _ _ _ _ _ _ h hL hP hS
    rw [if_neg h63] at h
    obtain ⟨h1, h2, h3, h4⟩ : 0 ≤ a ∧ a < 2147483648 ∧ -2147483648 ≤ b ∧ b < 2147483648 := by
      rcases hab with q | q
      · exact absurd q h63
      · exact q
    by_cases hb0 : 0 ≤ b
    · rw [if_pos hb0] at h
      rw [n32_and h1 h2 hb0 h4]
      exact hK _ _ _ _ _ _ _ h hL hP hS
    · rw [if_neg hb0] at h
      have e1 : b = -(-b - 1) - 1 := by omega
      have e2 : Int32.ofInt a &&& Int32.ofInt b = Int32.ofInt (a - ((a.toNat &&& (-b - 1).toNat : Nat) : Int)) := by
        have := n32_andN h1 h2 (c := -b - 1) (by omega) (by omega)
        rw [← e1] at this
        exact this
      rw [e2]
      exact hK _ _ _ _ _ _ _ h hL hP hS
  | ior =>
    cases (show n = 1 from beq_iff_eq.mp hok)
    obtain ⟨b, r, rfl, h⟩ := pI_ex h
    obtain ⟨a, r, rfl, ⟨h1, h2, h3, h4⟩, h⟩ := pI_ex h
    exact lv_ior hx hb hdec (by rw [n32_or h1 h2 h3 h4]; exact hK _ _ _ _ _ _ _ h hL hP hS)
  | ixor =>
    cases (show n = 1 from beq_iff_eq.mp hok)
    obtain ⟨b, r, rfl, h⟩ := pI_ex h
    obtain ⟨a, r, rfl, hb1, h⟩ := pI_ex h
    exact lv_ixor hx hb hdec (by rw [hb1, n32_xorM]; exact hK _ _ _ _ _ _ _ h hL hP hS)
  | ishl =>
    cases (show n = 1 from beq_iff_eq.mp hok)
    obtain ⟨b, r, rfl, h⟩ := pI_ex h
    obtain ⟨a, r, rfl, ⟨h1, h2, h3, h4⟩, h⟩ := pI_ex h
    exact lv_ishl hx hb hdec (by rw [n32_shl h1 h2 h3 h4]; exact hK _ _ _ _ _ _ _ h hL hP hS)
  | ishr =>
    cases (show n = 1 from beq_iff_eq.mp hok)
    obtain ⟨b, r, rfl, h⟩ := pI_ex h
    obtain ⟨a, r, rfl, ⟨h1, h2, h3, h4⟩, h⟩ := pI_ex h
    exact lv_ishr hx hb hdec (by rw [n32_shr h1 h2 h3 h4]; exact hK _ _ _ _ _ _ _ h hL hP hS)
  | i2l =>
    cases (show n = 1 from beq_iff_eq.mp hok)
    obtain ⟨a, r, rfl, h1, h⟩ := pI_ex h
    exact lv_i2l hx hb hdec (n32_64 h1) (hK _ _ _ _ _ _ _ h hL hP hS)
  | l2i =>
    cases (show n = 1 from beq_iff_eq.mp hok)
    obtain ⟨a, r, rfl, h⟩ := pL_ex h
    exact lv_l2i hx hb hdec (n64_32 a) (hK _ _ _ _ _ _ _ h hL hP hS)
  | i2c =>
    cases (show n = 1 from beq_iff_eq.mp hok)
    obtain ⟨a, r, rfl, h1, h⟩ := pI_ex h
    exact lv_i2c hx hb hdec (n32_char h1.1 h1.2) (hK _ _ _ _ _ _ _ h hL hP hS)
  | ladd =>
    cases (show n = 1 from beq_iff_eq.mp hok)
    obtain ⟨b, r, rfl, h⟩ := pL_ex h
    obtain ⟨a, r, rfl, h⟩ := pL_ex h
    exact lv_ladd hx hb hdec (by rw [n64_add]; exact hK _ _ _ _ _ _ _ h hL hP hS)
  | lmul =>
    cases (show n = 1 from beq_iff_eq.mp hok)
    obtain ⟨b, r, rfl, h⟩ := pL_ex h
    obtain ⟨a, r, rfl, h⟩ := pL_ex h
    exact lv_lmul hx hb hdec (by rw [n64_mul]; exact hK _ _ _ _ _ _ _ h hL hP hS)
  | ldiv =>
    cases (show n = 1 from beq_iff_eq.mp hok)
    obtain ⟨b, r, rfl, h⟩ := pL_ex h
    obtain ⟨a, r, rfl, ⟨h1, h2, h3, h4⟩, h⟩ := pL_ex h
    exact lv_ldiv hx hb hdec (by rw [n64_0, n64_eq ⟨by omega, by omega⟩ ⟨by omega, by omega⟩]; omega) (by rw [n64_div h1 h2 h3 h4]; exact hK _ _ _ _ _ _ _ h hL hP hS)
  | lrem =>
    cases (show n = 1 from beq_iff_eq.mp hok)
    obtain ⟨b, r, rfl, h⟩ := pL_ex h
    obtain ⟨a, r, rfl, ⟨h1, h2, h3, h4⟩, h⟩ := pL_ex h
    exact lv_lrem hx hb hdec (by rw [n64_0, n64_eq ⟨by omega, by omega⟩ ⟨by omega, by omega⟩]; omega) (by rw [n64_rem h1 h2 h3 h4]; exact hK _ _ _ _ _ _ _ h hL hP hS)
  | lcmp =>
    cases (show n = 1 from beq_iff_eq.mp hok)
    obtain ⟨b, r, rfl, h⟩ := pL_ex h
    obtain ⟨a, r, rfl, h1, h⟩ := pL_ex h
    refine W.lcmp hx hb hdec ?_
    have e1 : lg_cmp (Int64.ofInt a) (Int64.ofInt b) = Int32.ofInt (if a = b then 0 else if b < a then 1 else -1) := by
      unfold lg_cmp
      rcases h1 with rfl | ⟨ha, hb⟩
      · rw [if_pos rfl, if_neg (by rw [gt_iff_lt, Int64.lt_iff_toInt_lt]; omega), if_pos rfl]; rfl
      · by_cases e2 : a = b
        · subst e2
          rw [if_pos rfl, if_neg (by rw [gt_iff_lt, Int64.lt_iff_toInt_lt]; omega), if_pos rfl]; rfl
        · rw [if_neg e2]
          by_cases e3 : b < a
          · rw [if_pos e3, if_pos ((n64_lt hb ha).mpr e3)]; rfl
          · rw [if_neg e3, if_neg (fun z => e3 ((n64_lt hb ha).mp z)), if_neg (fun z => e2 ((n64_eq ha hb).mp z))]; rfl
    rw [e1]
    exact hK _ _ _ _ _ _ _ h hL hP hS
  | dup =>
    cases (show n = 1 from beq_iff_eq.mp hok)
    cases st with
    | nil => exact h.elim
    | cons v r => exact lv_dup hx hb hdec (isL_cat1 h.1) (hK _ _ _ _ _ _ _ h.2 hL hP hS)
  | dup2 =>
    cases (show n = 1 from beq_iff_eq.mp hok)
    cases st with
    | nil => exact h.elim
    | cons v r =>
      cases r with
      | nil => exact h.elim
      | cons w r => exact lv_dup2_11 hx hb hdec (isL_cat1 h.1) (isL_cat1 h.2.1) (hK _ _ _ _ _ _ _ h.2.2 hL hP hS)
  | pop =>
    cases (show n = 1 from beq_iff_eq.mp hok)
    cases st with
    | nil => exact h.elim
    | cons v r => exact lv_pop hx hb hdec (isL_cat1 h.1) (hK _ _ _ _ _ _ _ h.2 hL hP hS)
  | goto off =>
    cases (show n = 3 from beq_iff_eq.mp hok)
    obtain ⟨t, h1, h2⟩ := wbr_ex (pc := pc) (off := off) (f := fun t => Kp t ls st σ) h
    exact lv_goto hx hb hdec h1 (hK _ _ _ _ _ _ _ h2 hL hP hS)
  | if_icmp cd off =>
    cases (show n = 3 from beq_iff_eq.mp hok)
    obtain ⟨b, r, rfl, h⟩ := pI_ex h
    obtain ⟨a, r, rfl, ⟨ha, hb'⟩, h⟩ := pI_ex h
    obtain ⟨t, h1, h2⟩ := wbr_ex h
    obtain ⟨k1, k2⟩ := cmp_if h2
    cases cd with
    | eq => exact lv_icmp_eq hx hb hdec h1 (fun z => hK _ _ _ _ _ _ _ (k1 (decide_eq_true ((n32_eq ha hb').mp z))) hL hP hS) (fun z => hK _ _ _ _ _ _ _ (k2 (fun q => z ((n32_eq ha hb').mpr (of_decide_eq_true q)))) hL hP hS)
    | ne => exact lv_icmp_ne hx hb hdec h1 (fun z => hK _ _ _ _ _ _ _ (k1 (decide_eq_true (fun q => z ((n32_eq ha hb').mpr q)))) hL hP hS) (fun z => hK _ _ _ _ _ _ _ (k2 (fun q => (of_decide_eq_true q) ((n32_eq ha hb').mp z))) hL hP hS)
    | lt => exact lv_icmp_lt hx hb hdec h1 (fun z => hK _ _ _ _ _ _ _ (k1 (decide_eq_true ((n32_lt ha hb').mp z))) hL hP hS) (fun z => hK _ _ _ _ _ _ _ (k2 (fun q => z ((n32_lt ha hb').mpr (of_decide_eq_true q)))) hL hP hS)
    | ge => exact lv_icmp_ge hx hb hdec h1 (fun z => hK _ _ _ _ _ _ _ (k1 (decide_eq_true ((n32_le hb' ha).mp z))) hL hP hS) (fun z => hK _ _ _ _ _ _ _ (k2 (fun q => z ((n32_le hb' ha).mpr (of_decide_eq_true q)))) hL hP hS)
    | gt => exact lv_icmp_gt hx hb hdec h1 (fun z => hK _ _ _ _ _ _ _ (k1 (decide_eq_true ((n32_lt hb' ha).mp z))) hL hP hS) (fun z => hK _ _ _ _ _ _ _ (k2 (fun q => z ((n32_lt hb' ha).mpr (of_decide_eq_true q)))) hL hP hS)
    | le => exact lv_icmp_le hx hb hdec h1 (fun z => hK _ _ _ _ _ _ _ (k1 (decide_eq_true ((n32_le ha hb').mp z))) hL hP hS) (fun z => hK _ _ _ _ _ _ _ (k2 (fun q => z ((n32_le ha hb').mpr (of_decide_eq_true q)))) hL hP hS)
  | ifCond cd off =>
    cases (show n = 3 from beq_iff_eq.mp hok)
    obtain ⟨a, r, rfl, ha, h⟩ := pI_ex h
    obtain ⟨t, h1, h2⟩ := wbr_ex h
    obtain ⟨k1, k2⟩ := cmp_if h2
    have h0 : InR 0 := ⟨by omega, by omega⟩
    cases cd with
    | eq => exact lv_if_eq hx hb hdec h1 (fun z => hK _ _ _ _ _ _ _ (k1 (decide_eq_true ((n32_eq ha h0).mp z))) hL hP hS) (fun z => hK _ _ _ _ _ _ _ (k2 (fun q => z ((n32_eq ha h0).mpr (of_decide_eq_true q)))) hL hP hS)
    | ne => exact lv_if_ne hx hb hdec h1 (fun z => hK _ _ _ _ _ _ _ (k1 (decide_eq_true (fun q => z ((n32_eq ha h0).mpr q)))) hL hP hS) (fun z => hK _ _ _ _ _ _ _ (k2 (fun q => (of_decide_eq_true q) ((n32_eq ha h0).mp z))) hL hP hS)
    | lt => exact lv_if_lt hx hb hdec h1 (fun z => hK _ _ _ _ _ _ _ (k1 (decide_eq_true ((n32_lt ha h0).mp z))) hL hP hS) (fun z => hK _ _ _ _ _ _ _ (k2 (fun q => z ((n32_lt ha h0).mpr (of_decide_eq_true q)))) hL hP hS)
    | ge => exact lv_if_ge hx hb hdec h1 (fun z => hK _ _ _ _ _ _ _ (k1 (decide_eq_true ((n32_le h0 ha).mp z))) hL hP hS) (fun z => hK _ _ _ _ _ _ _ (k2 (fun q => z ((n32_le h0 ha).mpr (of_decide_eq_true q)))) hL hP hS)
    | gt => exact lv_if_gt hx hb hdec h1 (fun z => hK _ _ _ _ _ _ _ (k1 (decide_eq_true ((n32_lt h0 ha).mp z))) hL hP hS) (fun z => hK _ _ _ _ _ _ _ (k2 (fun q => z ((n32_lt h0 ha).mpr (of_decide_eq_true q)))) hL hP hS)
    | le => exact lv_if_le hx hb hdec h1 (fun z => hK _ _ _ _ _ _ _ (k1 (decide_eq_true ((n32_le ha h0).mp z))) hL hP hS) (fun z => hK _ _ _ _ _ _ _ (k2 (fun q => z ((n32_le ha h0).mpr (of_decide_eq_true q)))) hL hP hS)
  | ifnull off =>
    cases (show n = 3 from beq_iff_eq.mp hok)
    obtain ⟨a, r, rfl, h⟩ := pR_ex h
    exact lv_ifnull hx hb hdec (hK _ _ _ _ _ _ _ h hL hP hS)
  | tableswitch dflt lo hi offs =>
    obtain ⟨a, r, rfl, ha, h⟩ := pI_ex h
    unfold tswT at h
    by_cases hc : a < lo ∨ hi < a
    · rw [if_pos hc] at h
      obtain ⟨t, h1, h2⟩ := wbr_ex h
      exact lv_tableOut hx hb hdec (by rw [n32_ti ha]; exact hc) h1 (hK _ _ _ _ _ _ _ h2 hL hP hS)
    · rw [if_neg hc] at h
      split at h
      · rename_i o ho
        obtain ⟨t, h1, h2⟩ := wbr_ex h
        exact lv_tableIn hx hb hdec (by rw [n32_ti ha]; exact fun z => hc (Or.inl z)) (by rw [n32_ti ha]; exact fun z => hc (Or.inr z)) (by rw [n32_ti ha]; exact ho) h1 (hK _ _ _ _ _ _ _ h2 hL hP hS)
      · exact h.elim
  | lookupswitch dflt ps =>
    obtain ⟨a, r, rfl, ha, hps, h⟩ := pI_ex h
    obtain ⟨t, h1, h2⟩ := wbr_ex h
    exact lv_lookup hx hb hdec hps (by rw [n32_ti ha]) h1 (hK _ _ _ _ _ _ _ h2 hL hP hS)
  | getfield idx =>
    cases (show n = 3 from beq_iff_eq.mp hok)
    obtain ⟨k, r, rfl, h9⟩ := pR_ex h
    split at h9
    · rename_i q hq
      exact getf hq h9.1 hdec h9.2
    · exact h9.elim
  | putfield idx =>
    cases (show n = 3 from beq_iff_eq.mp hok)
    simp only [wstep] at h
    split at h
    case h_2 => exact h.elim
    case h_1 q hq =>
    obtain ⟨hfi, h⟩ := h
    have hf := (fr_ok hq).2.2
    unfold frOK at hf
    simp only [Bool.and_eq_true, decide_eq_true_eq] at hf
    obtain ⟨⟨⟨⟨hc8, hj⟩, hdc⟩, hfin⟩, hlink⟩ := hf
    obtain ⟨b1, b2, b3⟩ := cft_bool _ hc8 _ hj
    split at h
    · rename_i hz
      obtain ⟨v, r, rfl, h⟩ := pI_ex h
      obtain ⟨k, r, rfl, hk, h⟩ := pR_ex h
      have e1 : fAV (ug σ k q.2.2.2.1 v) k q.2.2.2.1 = .inl (Int32.ofInt v).toInt := by
        unfold fAV
        rw [hk, hz]
        simp [gg, ug]
      have e2 : tv ad sa (fAV (ug σ k q.2.2.2.1 v) k q.2.2.2.1) = .int (Int32.ofInt v) := by
        rw [e1]; show Value.int _ = _; rw [n32_ot]
      have := putf (σ' := ug σ k q.2.2.2.1 v) (r := r) hq hfi hk hdec (by rw [e2, b1 hz]; rfl) (by rw [e2, b1 hz]; rfl) (fun i hi => celE_ug hi) (fun i hi => (fAV_ug (Or.inr hi)).symm) h
      rw [e2] at this
      exact this
    · rename_i hz
      obtain ⟨v, r, rfl, h⟩ := pI_ex h
      obtain ⟨k, r, rfl, hk, hv, h⟩ := pR_ex h
      have e1 : fAV (ug σ k q.2.2.2.1 v) k q.2.2.2.1 = .inl (Int32.ofInt v).toInt := by
        unfold fAV
        rw [hk, hz]
        simp [gg, ug]
      have e2 : tv ad sa (fAV (ug σ k q.2.2.2.1 v) k q.2.2.2.1) = .int (Int32.ofInt v) := by
        rw [e1]; show Value.int _ = _; rw [n32_ot]
      obtain ⟨n1, n2, -⟩ := nar_b hv
      have := putf (σ' := ug σ k q.2.2.2.1 v) (r := r) hq hfi hk hdec (by rw [e2, b2 hz]; exact n1) (by rw [e2, b2 hz]; exact n2) (fun i hi => celE_ug hi) (fun i hi => (fAV_ug (Or.inr hi)).symm) h
      rw [e2] at this
      exact this
    · rename_i hz
      obtain ⟨v, r, rfl, h⟩ := pL_ex h
      obtain ⟨k, r, rfl, hk, h⟩ := pR_ex h
      have e1 : fAV (ul σ k q.2.2.2.1 v) k q.2.2.2.1 = .inr (.inl (Int64.ofInt v).toInt) := by
        unfold fAV
        rw [hk, hz]
        simp [gl, ul]
      have e2 : tv ad sa (fAV (ul σ k q.2.2.2.1 v) k q.2.2.2.1) = .long (Int64.ofInt v) := by
        rw [e1]; show Value.long _ = _; rw [n64_ot]
      have := putf (σ' := ul σ k q.2.2.2.1 v) (r := r) hq hfi hk hdec (by rw [e2, b3 hz]; rfl) (by rw [e2, b3 hz]; rfl) (fun i hi => celE_ul hi) (fun i hi => (fAV_ul (Or.inr hi)).symm) h
      rw [e2] at this
      exact this
    · exact h.elim
  | iaload =>
    cases (show n = 1 from beq_iff_eq.mp hok)
    obtain ⟨i, r, rfl, h9⟩ := pI_ex h
    split at h9
    · obtain ⟨h1, h2, h3⟩ := h9
      obtain ⟨e1, e2⟩ := ald (t := 0) h1 h2
      have h5 := hK _ _ _ _ _ _ _ h3 hL hP hS
      rw [List.map_cons, e2] at h5
      exact va_iald (tys := tyG G) hx hb hKK hP _ 0 (arrw (t := 0) h1 (by omega)) rfl e1 hdec h5
    · split at h9
      · rename_i q
        obtain ⟨h2, h3⟩ := h9
        obtain ⟨x1, x2, x3, x4⟩ := hX
        have h5 := hK _ _ _ _ _ _ _ h3 hL hP hS
        rw [List.map_cons, show tv ad sa (.inl (q.2 i.toNat).toInt) = .int (q.2 (Int32.ofInt i).toNatClampNeg) by
          rw [n32_cl h2.1 (by omega)]; show Value.int _ = _; rw [n32_ot]] at h5
        exact va_sld hx hb x1 x2 x3 hS (n32_vin h2.1 h2.2 (by omega)) hdec h5
      · exact h9.elim
    · exact h9.elim
  | baload =>
    cases (show n = 1 from beq_iff_eq.mp hok)
    obtain ⟨i, r, rfl, h⟩ := pI_ex h
    obtain ⟨k, r, rfl, h1, h2, h3⟩ := pR_ex h
    obtain ⟨e1, e2⟩ := ald (t := 1) h1 h2
    have h5 := hK _ _ _ _ _ _ _ h3 hL hP hS
    rw [List.map_cons, e2] at h5
    exact va_zald (tys := tyG G) hx hb hKK hP _ 1 (arrw (t := 1) h1 (by omega)) rfl e1 hdec h5
  | caload =>
    cases (show n = 1 from beq_iff_eq.mp hok)
    obtain ⟨i, r, rfl, h⟩ := pI_ex h
    obtain ⟨k, r, rfl, h1, h2, h3⟩ := pR_ex h
    obtain ⟨e1, e2⟩ := ald (t := 2) h1 h2
    have h5 := hK _ _ _ _ _ _ _ h3 hL hP hS
    rw [List.map_cons, e2] at h5
    exact va_cald (tys := tyG G) hx hb hKK hP _ 2 (arrw (t := 2) h1 (by omega)) rfl e1 hdec h5
  | aaload =>
    cases (show n = 1 from beq_iff_eq.mp hok)
    obtain ⟨i, r, rfl, h⟩ := pI_ex h
    obtain ⟨k, r, rfl, h1, h2, h3⟩ := pR_ex h
    have h4 := shL_le k
    have hw : (wld G ad sa σ)[k]? = some (ad k, .inl (G 3, shL k, .inr (.inr (.inr (.inr (fun i => some (ad (shE k i)))))))) := by
      rw [wld_get (shC_lt (k := k) (by omega)), celE_refs h1]
    have h5 := hK _ _ _ _ _ _ _ h3 hL hP hS
    rw [List.map_cons, show tv ad sa (.inr (.inr (.inl (shE k i.toNat)))) = va_rf (some (ad (shE k (Int32.ofInt i).toNatClampNeg))) by rw [n32_cl h2.1 (by omega)]; rfl] at h5
    exact va_aldq (tys := tyG G) hx hb hKK hP _ 3 hw rfl (n32_vin h2.1 h2.2 (by omega)) hdec h5
  | iastore =>
    cases (show n = 1 from beq_iff_eq.mp hok)
    obtain ⟨v, r, rfl, h⟩ := pI_ex h
    obtain ⟨i, r, rfl, h⟩ := pI_ex h
    obtain ⟨k, r, rfl, h1, h2, h3⟩ := pR_ex h
    exact va_iast (tys := tyG G) hx hb hKK hP hD hS _ 0 (arrw (t := 0) h1 (by omega)) rfl (ald (t := 0) h1 h2).1 hdec (fun H1 locs1 hP1 _ hS1 => ast (t := 0) h1 (by omega) h2 h3 hP1 hS1)
  | bastore =>
    cases (show n = 1 from beq_iff_eq.mp hok)
    obtain ⟨v, r, rfl, h⟩ := pI_ex h
    obtain ⟨i, r, rfl, h⟩ := pI_ex h
    obtain ⟨k, r, rfl, h1, h2, hv, h3⟩ := pR_ex h
    exact va_zast (tys := tyG G) hx hb hKK hP hD hS _ 1 (arrw (t := 1) h1 (by omega)) rfl (ald (t := 1) h1 h2).1 hdec (fun H1 locs1 hP1 _ hS1 => ast (t := 1) h1 (by omega) h2 h3 (by rw [(nar_b hv).2.2] at hP1; exact hP1) hS1)
  | castore =>
    cases (show n = 1 from beq_iff_eq.mp hok)
    obtain ⟨v, r, rfl, h⟩ := pI_ex h
    obtain ⟨i, r, rfl, h⟩ := pI_ex h
    obtain ⟨k, r, rfl, h1, h2, hv, h3⟩ := pR_ex h
    exact va_cast (tys := tyG G) hx hb hKK hP hD hS _ 2 (arrw (t := 2) h1 (by omega)) rfl (ald (t := 2) h1 h2).1 hdec (fun H1 locs1 hP1 _ hS1 => ast (t := 2) h1 (by omega) h2 h3 (by rw [vp_nar_char, nar_c hv] at hP1; exact hP1) hS1)
  | arraylength =>
    cases (show n = 1 from beq_iff_eq.mp hok)
    simp only [wstep] at h
    split at h
    · rename_i k r
      obtain ⟨h1, h2⟩ := h
      have h3 := n32_nat (shL k)
      by_cases h4 : shC k = 103
      · have hw : (wld G ad sa σ)[k]? = some (ad k, .inl (G 3, shL k, .inr (.inr (.inr (.inr (fun i => some (ad (shE k i)))))))) := by
          rw [wld_get (shC_lt (k := k) (by omega)), celE_refs h4]
        exact va_alen (tys := tyG G) hx hb hKK hP _ 3 hw rfl h3.symm hdec (hK _ _ _ _ _ _ _ h2 hL hP hS)
      · have hw := arrw (k := k) (t := shC k - 100) (by omega) (by omega)
        have ht : ∃ ty, (tyG G)[shC k - 100]? = some (G (shC k - 100), ty) := by
          have : shC k - 100 = 0 ∨ shC k - 100 = 1 ∨ shC k - 100 = 2 := by omega
          rcases this with z | z | z <;> rw [z] <;> exact ⟨_, rfl⟩
        obtain ⟨ty, ht⟩ := ht
        exact va_alen (tys := tyG G) hx hb hKK hP _ _ hw ht h3.symm hdec (hK _ _ _ _ _ _ _ h2 hL hP hS)
    · split at h
      · rename_i r q
        obtain ⟨x1, x2, x3, x4⟩ := hX
        have h5 := hK _ _ _ _ _ _ _ h hL hP hS
        exact va_slen hx hb x1 x2 x3 hS hdec (by rw [List.map_cons, show tv ad sa (.inl (q.1 : Int)) = .int (Int32.ofNat q.1) by show Value.int _ = _; rw [n32_nat]] at h5; exact h5)
      · exact h.elim
    · exact h.elim
  | invokestatic idx =>
    cases (show n = 3 from beq_iff_eq.mp hok)
    exact call_run (vir := false) (idx := idx) (k := fun r σ' rest => Kp (pc + 3) ls (pushR r rest) σ') E' hRf hRl hRc IH h hdec hL.1 hP hS (fun r σ' rest H1 locs1 hk hP1 hS1 => hK _ _ _ _ _ _ _ hk hL hP1 hS1)
  | invokevirtual idx =>
    cases (show n = 3 from beq_iff_eq.mp hok)
    exact call_run (vir := true) (idx := idx) (k := fun r σ' rest => Kp (pc + 3) ls (pushR r rest) σ') E' hRf hRl hRc IH h hdec hL.1 hP hS (fun r σ' rest H1 locs1 hk hP1 hS1 => hK _ _ _ _ _ _ _ hk hL hP1 hS1)
  | ireturn =>
    cases (show n = 1 from beq_iff_eq.mp hok)
    obtain ⟨a, r, rfl, rfl, h1, h2⟩ := pI_ex h
    exact hI _ _ _ _ _ _ hdec h1 h2 hP hS
  | lreturn =>
    cases (show n = 1 from beq_iff_eq.mp hok)
    obtain ⟨a, r, rfl, rfl, h1, h2⟩ := pL_ex h
    exact hJ _ _ _ _ _ _ hdec h1 h2 hP hS
  | return_ =>
    cases (show n = 1 from beq_iff_eq.mp hok)
    obtain ⟨rfl, h1, h2⟩ := h
    exact hV _ _ _ _ _ hdec h1 h2 hP hS
  | _ => exact False.elim h
end RUN
