-- what the plain machine's values, cells and locals are in the machine; the tables checked
def tv (ad sa : Nat → Nat) : AV → Value
  | .inl a => .int (Int32.ofInt a)
  | .inr (.inl a) => .long (Int64.ofInt a)
  | .inr (.inr (.inl k)) => .ref (ad k)
  | .inr (.inr (.inr n)) => .ref (sa n)
theorem tv_cat (ad sa : Nat → Nat) (v : AV) : (tv ad sa v).category = if isL v then 2 else 1 := by
  rcases v with a | a | k | n <;> rfl
theorem isL_cat1 {ad sa : Nat → Nat} {v : AV} (h : isL v = false) : (tv ad sa v).category = 1 := by rw [tv_cat, h]; rfl
def celE (G : Nat → ClassId) (ad sa : Nat → Nat) (σ : SG) (k : Nat) : va_E :=
  if shC k < 8 then .inr (shC k, (List.range (cnf (shC k))).map fun j => tv ad sa (fAV σ k j))
  else if shC k = 103 then .inl (G 3, shL k, .inr (.inr (.inr (.inr (fun i => some (ad (shE k i)))))))
  else .inl (G (shC k - 100), shL k, .inl (σ.1 k))
def wld (G : Nat → ClassId) (ad sa : Nat → Nat) (σ : SG) : va_W := (List.range nCl).map fun k => (ad k, celE G ad sa σ k)
def tyG (G : Nat → ClassId) : List (ClassId × FieldType) := [(G 0, .int), (G 1, .boolean), (G 2, .char), (G 3, .object "OvenLies$Town")]
theorem shC_lt {k : Nat} (h : shC k < 200) : k < nCl := by
  rcases Nat.lt_or_ge k nCl with h1 | h1
  · exact h1
  · have h2 : shT.getD k (200, 0, []) = (200, 0, []) := by
      rw [List.getD_eq_getElem?_getD, List.getElem?_eq_none (by exact h1)]; rfl
    unfold shC at h
    rw [h2] at h
    exact absurd h (by decide)
theorem shL_all : shT.all (fun q => decide (q.2.1 ≤ 1000)) = true := by decide +kernel
theorem shL_le (k : Nat) : shL k ≤ 1000 := by
  unfold shL
  rw [List.getD_eq_getElem?_getD]
  cases h : shT[k]? with
  | none => exact Nat.zero_le _
  | some q =>
    have := List.all_eq_true.mp shL_all q (List.mem_of_getElem? h)
    exact of_decide_eq_true this
theorem wld_get {G : Nat → ClassId} {ad sa : Nat → Nat} {σ : SG} {k : Nat} (h : k < nCl) : (wld G ad sa σ)[k]? = some (ad k, celE G ad sa σ k) := by
  unfold wld
  rw [List.getElem?_map, List.getElem?_range h]
  rfl
theorem map_set {α : Type} (n k : Nat) (f g : Nat → α) (h : ∀ i, i ≠ k → f i = g i) : ((List.range n).map f).set k (g k) = (List.range n).map g := by
  apply List.ext_getElem?
  intro i
  rw [List.getElem?_set]
  by_cases hi : k = i
  · subst hi
    simp only [if_true, List.length_map, List.length_range, List.getElem?_map]
    by_cases hk : k < n
    · rw [List.getElem?_range hk]; simp [hk]
    · rw [List.getElem?_eq_none (by simp; omega)]; simp [hk]
  · rw [if_neg hi, List.getElem?_map, List.getElem?_map]
    by_cases hk : i < n
    · rw [List.getElem?_range hk]; simp [h i (Ne.symm hi)]
    · rw [List.getElem?_eq_none (by simp; omega)]; rfl
theorem wld_set {G : Nat → ClassId} {ad sa : Nat → Nat} {σ σ' : SG} {k : Nat} (h : ∀ i, i ≠ k → celE G ad sa σ i = celE G ad sa σ' i) {e : Nat × va_E} (he : e = (ad k, celE G ad sa σ' k)) : (wld G ad sa σ).set k e = wld G ad sa σ' := by
  subst he
  exact map_set nCl k (fun k => (ad k, celE G ad sa σ k)) (fun k => (ad k, celE G ad sa σ' k)) (fun i hi => by simp only [h i hi])
theorem fAV_ug {σ : SG} {k j i j2 : Nat} {v : Int} (h : i ≠ k ∨ j2 ≠ j) : fAV (ug σ k j v) i j2 = fAV σ i j2 := by
  unfold fAV
  split
  · rfl
  · rfl
  · congr 1
    unfold gg ug
    congr 1
    by_cases h1 : i = k
    · rcases h with h | h
      · exact absurd h1 h
      · simp [h1, h]
    · simp [h1]
theorem fAV_ul {σ : SG} {k j i j2 : Nat} {v : Int} (h : i ≠ k ∨ j2 ≠ j) : fAV (ul σ k j v) i j2 = fAV σ i j2 := by
  unfold fAV
  split
  · rfl
  · congr 1; congr 1
    unfold gl ul
    congr 1
    by_cases h1 : i = k
    · rcases h with h | h
      · exact absurd h1 h
      · simp [h1, h]
    · simp [h1]
  · rfl
theorem celE_ug {G : Nat → ClassId} {ad sa : Nat → Nat} {σ : SG} {k j i : Nat} {v : Int} (h : i ≠ k) : celE G ad sa σ i = celE G ad sa (ug σ k j v) i := by
  unfold celE
  simp only [fAV_ug (σ := σ) (k := k) (j := j) (v := v) (Or.inl h)]
  have : (ug σ k j v).1 i = σ.1 i := by
    unfold ug
    funext b
    simp [h]
  rw [this]
theorem celE_ul {G : Nat → ClassId} {ad sa : Nat → Nat} {σ : SG} {k j i : Nat} {v : Int} (h : i ≠ k) : celE G ad sa σ i = celE G ad sa (ul σ k j v) i := by
  unfold celE
  simp only [fAV_ul (σ := σ) (k := k) (j := j) (v := v) (Or.inl h)]
  rfl
theorem celE_obj {G : Nat → ClassId} {ad sa : Nat → Nat} {σ : SG} {k ci : Nat} (h : shC k = ci) (hc : ci < 8) : celE G ad sa σ k = .inr (ci, (List.range (cnf ci)).map fun j => tv ad sa (fAV σ k j)) := by
  unfold celE
  rw [if_pos (by omega), h]
theorem celE_arr {G : Nat → ClassId} {ad sa : Nat → Nat} {σ : SG} {k t : Nat} (h : shC k = 100 + t) (ht : t < 3) : celE G ad sa σ k = .inl (G t, shL k, .inl (σ.1 k)) := by
  unfold celE
  rw [if_neg (by omega), if_neg (by omega), show shC k - 100 = t by omega]
theorem celE_refs {G : Nat → ClassId} {ad sa : Nat → Nat} {σ : SG} {k : Nat} (h : shC k = 103) : celE G ad sa σ k = .inl (G 3, shL k, .inr (.inr (.inr (.inr (fun i => some (ad (shE k i))))))) := by
  unfold celE
  rw [if_neg (by omega), if_pos h]
theorem cel_fld {ad sa : Nat → Nat} {σ : SG} {k n j : Nat} (h : j < n) : ((List.range n).map fun j => tv ad sa (fAV σ k j))[j]? = some (tv ad sa (fAV σ k j)) := by
  rw [List.getElem?_map, List.getElem?_range h]; rfl
theorem vwCl_at {ci : Nat} (h : ci < 8) : vwCl[ci]? = some (cnm ci, ctt ci, cnf ci) := by
  have : ∀ ci, ci < 8 → vwCl[ci]? = some (cnm ci, ctt ci, cnf ci) := by
    intro ci h
    rcases ci with _ | _ | _ | _ | _ | _ | _ | _ | ci
    all_goals first | rfl | omega
  exact this ci h
theorem cty_ok : ∀ ci, ci < 8 → ∀ k, k < cnf ci → parseFieldDescriptor (ctt ci k).2.2.1 = some (cty ci k) := by
  intro ci h
  rcases ci with _ | _ | _ | _ | _ | _ | _ | _ | ci
  · exact tyX0_ok
  · exact tyX1_ok
  · exact tyX2_ok
  · exact tyX3_ok
  · exact tyX4_ok
  · exact tyX5_ok
  · exact tyX6_ok
  · exact tyX7_ok
  · omega
theorem cnm_ok : ∀ ci, ci < 8 → ∀ a, a < cnf ci → ∀ b, b < cnf ci → a ≠ b → (ctt ci a).2.1 ≠ (ctt ci b).2.1 := by
  intro ci h
  rcases ci with _ | _ | _ | _ | _ | _ | _ | _ | ci
  · exact nmX0
  · exact nmX1
  · exact nmX2
  · exact nmX3
  · exact nmX4
  · exact nmX5
  · exact nmX6
  · exact nmX7
  · omega
-- the words of the tables, at any state of the launch
def okW : Cond → Bool
  | .fieldLinkNest .. => true
  | .methodLinkNest .. => true
  | w => w.onTables && w.keeps
def TB (U : State) : Prop := ∀ w ∈ lw_tbl, okW w = true → va_Nw w U
theorem okW_on {w : Cond} (h : okW w = true) : w.onTables = true := by
  unfold okW at h
  split at h
  · rfl
  · rfl
  · exact (Bool.and_eq_true _ _ ▸ h).1
theorem TB.warm {s U : State} (hW : s.WarmedH U.vm) (h : TB s) : TB U := by
  intro w hw hok
  have h1 := h w hw hok
  unfold okW at hok
  split at hok
  · exact va_Nw.warmF hW h1
  · exact va_Nw.warmM hW h1
  · exact word_at hW (Or.inl hok) h1
theorem TB.at {s : State} (h : TB s) {i : Nat} {w : Cond} (hi : lw_tbl[i]? = some w) (hok : okW w = true) {args : Array Value} : w.before args s = true := va_Nw.use (okW_on hok) (h w (List.mem_of_getElem? hi) hok)
def tbl_in (i : Nat) (w : Cond) : Bool := decide (lw_tbl[i]? = some w) && okW w
theorem TB.tin {s : State} (h : TB s) {i : Nat} {w : Cond} (hi : tbl_in i w = true) {args : Array Value} : w.before args s = true := by
  unfold tbl_in at hi
  rw [Bool.and_eq_true] at hi
  exact h.at (of_decide_eq_true hi.1) hi.2
def frOK (e : Nat × Nat × Nat × Nat × Nat × Nat × Nat) : Bool :=
  decide (e.2.2.1 < 8) && decide (e.2.2.2.1 < cnf e.2.2.1) && decide ((ctt e.2.2.1 e.2.2.2.1).1 = cnm e.2.2.1) && (decide (e.2.2.2.2.1 = 1) || !(ctt e.2.2.1 e.2.2.2.1).2.2.2) &&
  (if e.2.2.2.2.2.1 = 1 then tbl_in e.2.2.2.2.2.2 (.fieldLinkNest (cnm e.1) e.2.1 (cnm e.2.2.1) (ctt e.2.2.1 e.2.2.2.1).2.1 (ctt e.2.2.1 e.2.2.2.1).2.2.1 "OvenLies")
   else tbl_in e.2.2.2.2.2.2 (.fieldLink (cnm e.1) e.2.1 (cnm e.2.2.1) (ctt e.2.2.1 e.2.2.2.1).2.1 (ctt e.2.2.1 e.2.2.2.1).2.2.1))
theorem frOK_all : frTab.all frOK = true := by decide +kernel
def cdK (y : Nat) : Bool := match lw_tbl[cdP.getD y 0]? with
  | some (.code n b ml r) => decide (n = mnm y) && (b.data.toList.map (fun z => z.toNat) == (mcd y).data.toList.map (fun z => z.toNat)) && decide (ml = mml y) && decide (r = mrt y)
  | _ => false
theorem cdK_use {y : Nat} (h : cdK y = true) : lw_tbl[cdP.getD y 0]? = some (.code (mnm y) (mcd y) (mml y) (mrt y)) := by
  unfold cdK at h
  split at h
  · rename_i n b ml r hw
    simp only [Bool.and_eq_true, decide_eq_true_eq, beq_iff_eq] at h
    obtain ⟨⟨⟨h1, h2⟩, h3⟩, h4⟩ := h
    rw [hw, h1, h3, h4]
    have h5 : b.data.toList = (mcd y).data.toList := by
      have inj : ∀ (l l' : List UInt8), l.map (fun z => z.toNat) = l'.map (fun z => z.toNat) → l = l' := by
        intro l
        induction l with
        | nil => intro l' e; cases l' with
          | nil => rfl
          | cons a r => cases e
        | cons a r ih => intro l' e; cases l' with
          | nil => cases e
          | cons a' r' =>
            simp only [List.map_cons, List.cons.injEq] at e
            rw [UInt8.toNat_inj.mp e.1, ih r' e.2]
      exact inj _ _ h2
    have h6 : b = mcd y := by
      cases b with
      | mk d =>
        cases hm : mcd y with
        | mk d' =>
          rw [hm] at h5
          have : d = d' := Array.toList_inj.mp h5
          rw [this]
    rw [h6]
  · cases h
theorem cdK_0 : ((List.range' 0 15).all fun y => decide (y = 204) || cdK y) = true := by decide +kernel
theorem cdK_15 : ((List.range' 15 15).all fun y => decide (y = 204) || cdK y) = true := by decide +kernel
theorem cdK_30 : ((List.range' 30 15).all fun y => decide (y = 204) || cdK y) = true := by decide +kernel
theorem cdK_45 : ((List.range' 45 15).all fun y => decide (y = 204) || cdK y) = true := by decide +kernel
theorem cdK_60 : ((List.range' 60 15).all fun y => decide (y = 204) || cdK y) = true := by decide +kernel
theorem cdK_75 : ((List.range' 75 15).all fun y => decide (y = 204) || cdK y) = true := by decide +kernel
theorem cdK_90 : ((List.range' 90 15).all fun y => decide (y = 204) || cdK y) = true := by decide +kernel
theorem cdK_105 : ((List.range' 105 15).all fun y => decide (y = 204) || cdK y) = true := by decide +kernel
theorem cdK_120 : ((List.range' 120 15).all fun y => decide (y = 204) || cdK y) = true := by decide +kernel
theorem cdK_135 : ((List.range' 135 15).all fun y => decide (y = 204) || cdK y) = true := by decide +kernel
theorem cdK_150 : ((List.range' 150 15).all fun y => decide (y = 204) || cdK y) = true := by decide +kernel
theorem cdK_165 : ((List.range' 165 15).all fun y => decide (y = 204) || cdK y) = true := by decide +kernel
theorem cdK_180 : ((List.range' 180 15).all fun y => decide (y = 204) || cdK y) = true := by decide +kernel
theorem cdK_195 : ((List.range' 195 12).all fun y => decide (y = 204) || cdK y) = true := by decide +kernel
theorem cdK_all {y : Nat} (h : y < 207) (h4 : y ≠ 204) : lw_tbl[cdP.getD y 0]? = some (.code (mnm y) (mcd y) (mml y) (mrt y)) := by
  have key : ∀ (a n : Nat), ((List.range' a n).all fun y => decide (y = 204) || cdK y) = true → a ≤ y → y < a + n → cdK y = true := by
    intro a n hh h1 h2
    have := List.all_eq_true.mp hh y (List.mem_range'_1.mpr ⟨h1, h2⟩)
    rcases Bool.or_eq_true _ _ ▸ this with h3 | h3
    · exact absurd (of_decide_eq_true h3) h4
    · exact h3
  apply cdK_use
  by_cases h_0 : y < 15
  · exact key 0 15 cdK_0 (by omega) (by omega)
  by_cases h_15 : y < 30
  · exact key 15 15 cdK_15 (by omega) (by omega)
  by_cases h_30 : y < 45
  · exact key 30 15 cdK_30 (by omega) (by omega)
  by_cases h_45 : y < 60
  · exact key 45 15 cdK_45 (by omega) (by omega)
  by_cases h_60 : y < 75
  · exact key 60 15 cdK_60 (by omega) (by omega)
  by_cases h_75 : y < 90
  · exact key 75 15 cdK_75 (by omega) (by omega)
  by_cases h_90 : y < 105
  · exact key 90 15 cdK_90 (by omega) (by omega)
  by_cases h_105 : y < 120
  · exact key 105 15 cdK_105 (by omega) (by omega)
  by_cases h_120 : y < 135
  · exact key 120 15 cdK_120 (by omega) (by omega)
  by_cases h_135 : y < 150
  · exact key 135 15 cdK_135 (by omega) (by omega)
  by_cases h_150 : y < 165
  · exact key 150 15 cdK_150 (by omega) (by omega)
  by_cases h_165 : y < 180
  · exact key 165 15 cdK_165 (by omega) (by omega)
  by_cases h_180 : y < 195
  · exact key 180 15 cdK_180 (by omega) (by omega)
  by_cases h_195 : y < 207
  · exact key 195 12 cdK_195 (by omega) (by omega)
  omega
def caOK (e : Nat × Nat × Nat × Nat × Nat × Nat × Nat × Nat × Nat) : Bool :=
  decide (e.2.2.1 < 207 ∧ e.2.2.1 ≠ 204) && decide (mml e.2.2.1 ≤ 40) && decide ((mnm e.2.2.1).cls ≠ "java/lang/invoke/MethodHandle" ∧ (mnm e.2.2.1).cls ≠ "java/lang/invoke/VarHandle") &&
  decide ((parseMethodDescriptor (mnm e.2.2.1).desc).map (fun d => d.parameters.length + (if e.2.2.2.1 < 2 then 0 else 1)) = some (mna e.2.2.1)) &&
  (if e.2.2.2.1 = 1 ∨ e.2.2.2.1 = 3 then tbl_in e.2.2.2.2.1 (.methodLinkNest (cnm e.1) e.2.1 (mnm e.2.2.1) "OvenLies") else tbl_in e.2.2.2.2.1 (.methodLink (cnm e.1) e.2.1 (mnm e.2.2.1))) &&
  decide (cdP.getD e.2.2.1 0 = e.2.2.2.2.2.1) &&
  (if e.2.2.2.1 < 2 then tbl_in e.2.2.2.2.2.2.1 (.static (mnm e.2.2.1)) else (tbl_in e.2.2.2.2.2.2.1 (.instanceMethod (mnm e.2.2.1)) && tbl_in e.2.2.2.2.2.2.2.1 (.selects (mnm e.2.2.1).cls (mnm e.2.2.1) (mnm e.2.2.1)))) &&
  tbl_in e.2.2.2.2.2.2.2.2 (.initialized (mnm e.2.2.1).cls) && decide (e.2.2.2.1 < 4)
theorem caOK_0 : caTab0.all caOK = true := by decide +kernel
theorem caOK_1 : caTab1.all caOK = true := by decide +kernel
theorem caOK_2 : caTab2.all caOK = true := by decide +kernel
theorem caOK_3 : caTab3.all caOK = true := by decide +kernel
theorem caOK_4 : caTab4.all caOK = true := by decide +kernel
theorem caOK_5 : caTab5.all caOK = true := by decide +kernel
theorem caOK_6 : caTab6.all caOK = true := by decide +kernel
theorem caOK_7 : caTab7.all caOK = true := by decide +kernel
theorem caOK_8 : caTab8.all caOK = true := by decide +kernel
theorem caOK_9 : caTab9.all caOK = true := by decide +kernel
theorem caOK_10 : caTab10.all caOK = true := by decide +kernel
theorem caOK_11 : caTab11.all caOK = true := by decide +kernel
theorem caOK_12 : caTab12.all caOK = true := by decide +kernel
theorem caOK_all : caTab.all caOK = true := by
  simp only [caTab, List.all_append, caOK_0, caOK_1, caOK_2, caOK_3, caOK_4, caOK_5, caOK_6, caOK_7, caOK_8, caOK_9, caOK_10, caOK_11, caOK_12, Bool.and_self]
def klOK (e : Nat × Nat × Int × Nat) : Bool := tbl_in e.2.2.2 (.constantLong (cnm e.1) e.2.1 (Int64.ofInt e.2.2.1))
theorem klOK_all : klTab.all klOK = true := by decide +kernel
def kiOK (e : Nat × Nat × Int × Nat) : Bool := tbl_in e.2.2.2 (.constant (cnm e.1) e.2.1 (Int32.ofInt e.2.2.1))
theorem kiOK_all : kiTab.all kiOK = true := by decide +kernel
def lw_oks : List Cond := lw_tbl.filter okW
theorem u_ok : ∀ ci, ci < 8 → ∀ w ∈ u_ws (cnm ci) (ctt ci) (cnf ci), w ∈ lw_oks := by
  have h : ∀ ci, ci < 8 → ((u_ws (cnm ci) (ctt ci) (cnf ci)).all fun w => decide (w ∈ lw_oks)) = true := by decide +kernel
  intro ci hci w hw
  exact of_decide_eq_true (List.all_eq_true.mp (h ci hci) w hw)
theorem TB.oks {s : State} (h : TB s) {args : Array Value} : ∀ w ∈ lw_oks, w.before args s = true := by
  intro w hw
  obtain ⟨h1, h2⟩ := List.mem_filter.mp hw
  exact va_Nw.use (okW_on h2) (h w h1 h2)
-- a method's class: the cells of which it may be called
theorem mow_cls : ∀ y, y < 207 → mow y < 8 → (mnm y).cls = cnm (mow y) := by decide +kernel
theorem mow_own : ∀ y, y < 204 → (mnm y).cls = cnm (mow y) := by decide +kernel
theorem mow_str : ∀ y, y = 205 ∨ y = 206 → (mnm y).cls = "java/lang/String" := by
  intro y h
  rcases h with rfl | rfl <;> decide +kernel
