-- locals
def lvl (ad sa : Nat → Nat) (ls : List AV) : List (Nat × Value) := (List.range ls.length).filterMap fun i => match ls[i]? with
  | some v => if v = aU then none else some (i, tv ad sa v)
  | none => none
theorem lvl_mem {ad sa : Nat → Nat} {ls : List AV} {q : Nat × Value} : q ∈ lvl ad sa ls ↔ ∃ v, ls[q.1]? = some v ∧ v ≠ aU ∧ q.2 = tv ad sa v := by
  unfold lvl
  rw [List.mem_filterMap]
  constructor
  · rintro ⟨i, -, h⟩
    split at h
    · rename_i v hv
      split at h
      · cases h
      · rename_i hn
        cases h
        exact ⟨v, hv, hn, rfl⟩
    · cases h
  · rintro ⟨v, h1, h2, h3⟩
    refine ⟨q.1, List.mem_range.mpr (List.getElem?_eq_some_iff.mp h1).1, ?_⟩
    rw [h1]
    simp only [if_neg h2, ← h3]
def LV (ad sa : Nat → Nat) (y : Nat) (LS : Array Slot) (ls : List AV) : Prop :=
  LS.size = mml y ∧ lv_wf LS ∧ ls.length = mml y ∧ (mhl y = false → ∀ v ∈ ls, isL v = false) ∧ ∀ (i : Nat) (v : AV), ls[i]? = some v → v ≠ aU → LS[i]? = some (Slot.val (tv ad sa v))
theorem LV.has {ad sa : Nat → Nat} {y : Nat} {LS : Array Slot} {ls : List AV} (h : LV ad sa y LS ls) : lv_has LS (mml y) (lvl ad sa ls) :=
  ⟨h.1, h.2.1, fun q hq => by
    obtain ⟨v, h1, h2, h3⟩ := lvl_mem.mp hq
    rw [h3]
    exact h.2.2.2.2 _ _ h1 h2⟩
theorem LV.st1 {ad sa : Nat → Nat} {y : Nat} {LS LS' : Array Slot} {ls : List AV} {i : Nat} {v : AV} {lv' : List (Nat × Value)} (h : LV ad sa y LS ls) (hs : mhl y = false ∨ i = 0 ∨ isL (ls.getD (i - 1) aU) = false) (hv : isL v = false)
    (hl : (i, tv ad sa v) :: (lvl ad sa ls).filter (fun q => !(q.1 == i) && !(q.1 + 1 == i && q.2.category == 2)) = lv') (hh : lv_has LS' (mml y) lv') : LV ad sa y LS' (ls.set i v) := by
  refine ⟨hh.1, hh.2.1, by rw [List.length_set]; exact h.2.2.1, fun hm u hu => ?_, fun j u hj hu => ?_⟩
  · rcases List.mem_or_eq_of_mem_set hu with h1 | h1
    · exact h.2.2.2.1 hm u h1
    · rw [h1]; exact hv
  · subst hl
    rw [List.getElem?_set] at hj
    by_cases hi : i = j
    · subst hi
      simp only [if_true] at hj
      split at hj
      · cases hj
        exact hh.2.2 (i, tv ad sa v) List.mem_cons_self
      · cases hj
    · rw [if_neg hi] at hj
      refine hh.2.2 (j, tv ad sa u) (List.mem_cons_of_mem _ (List.mem_filter.mpr ⟨lvl_mem.mpr ⟨u, hj, hu, rfl⟩, ?_⟩))
      have hc : j + 1 = i → isL u = false := by
        intro hji
        rcases hs with h1 | h1 | h1
        · exact h.2.2.2.1 h1 u (List.mem_of_getElem? hj)
        · omega
        · rw [show i - 1 = j by omega, List.getD_eq_getElem?_getD, hj] at h1
          exact h1
      simp only [Bool.and_eq_true, Bool.not_eq_true', beq_eq_false_iff_ne, ne_eq, Bool.and_eq_false_iff, tv_cat]
      refine ⟨fun q => hi q.symm, ?_⟩
      by_cases hji : j + 1 = i
      · right
        rw [hc hji]
        decide
      · left; exact hji
theorem LV.st2 {ad sa : Nat → Nat} {y : Nat} {LS LS' : Array Slot} {ls : List AV} {i : Nat} {a : Int} {lv' : List (Nat × Value)} (h : LV ad sa y LS ls) (hm : mhl y = true) (hs : i = 0 ∨ isL (ls.getD (i - 1) aU) = false)
    (hl : (i, tv ad sa (.inr (.inl a))) :: (lvl ad sa ls).filter (fun q => !(q.1 == i) && (!(q.1 == i + 1) && !(q.1 + 1 == i && q.2.category == 2))) = lv') (hh : lv_has LS' (mml y) lv') : LV ad sa y LS' ((ls.set i (.inr (.inl a))).set (i + 1) aU) := by
  refine ⟨hh.1, hh.2.1, by rw [List.length_set, List.length_set]; exact h.2.2.1, fun hm' u hu => (by rw [hm] at hm'; cases hm'), fun j u hj hu => ?_⟩
  subst hl
  rw [List.getElem?_set] at hj
  by_cases hi1 : i + 1 = j
  · subst hi1
    simp only [if_true] at hj
    split at hj
    · cases hj
      exact absurd rfl hu
    · cases hj
  · rw [if_neg hi1, List.getElem?_set] at hj
    by_cases hi : i = j
    · subst hi
      simp only [if_true] at hj
      split at hj
      · cases hj
        exact hh.2.2 (i, _) List.mem_cons_self
      · cases hj
    · rw [if_neg hi] at hj
      refine hh.2.2 (j, tv ad sa u) (List.mem_cons_of_mem _ (List.mem_filter.mpr ⟨lvl_mem.mpr ⟨u, hj, hu, rfl⟩, ?_⟩))
      have hc : j + 1 = i → isL u = false := by
        intro hji
        rcases hs with h1 | h1
        · omega
        · rw [show i - 1 = j by omega, List.getD_eq_getElem?_getD, hj] at h1
          exact h1
      simp only [Bool.and_eq_true, Bool.not_eq_true', beq_eq_false_iff_ne, ne_eq, Bool.and_eq_false_iff, tv_cat]
      refine ⟨fun q => hi q.symm, fun q => hi1 q.symm, ?_⟩
      by_cases hji : j + 1 = i
      · right
        rw [hc hji]
        decide
      · left; exact hji
theorem lsE_args (ad sa : Nat → Nat) : ∀ (args : List AV) (off i : Nat) (v : AV), (lsE args)[i]? = some v → v ≠ aU → (off + i, tv ad sa v) ∈ lv_args off (args.map (tv ad sa)) := by
  intro args
  induction args with
  | nil => intro off i v h; cases h
  | cons a r ih =>
    intro off i v h hv
    have hc := tv_cat ad sa a
    show (off + i, tv ad sa v) ∈ (off, tv ad sa a) :: lv_args (if (tv ad sa a).category = 2 then off + 2 else off + 1) (r.map (tv ad sa))
    by_cases hL : isL a = true
    · have e : lsE (a :: r) = a :: aU :: lsE r := by simp [lsE, hL]
      rw [e] at h
      rw [hc, hL]
      rcases i with _ | _ | i
      · cases h; exact List.mem_cons_self
      · cases h; exact absurd rfl hv
      · refine List.mem_cons_of_mem _ ?_
        have := ih (off + 2) i v h hv
        rw [show off + (i + 1 + 1) = off + 2 + i by omega]
        exact this
    · have hL' : isL a = false := by simpa using hL
      have e : lsE (a :: r) = a :: lsE r := by simp [lsE, hL']
      rw [e] at h
      rw [hc, hL']
      rcases i with _ | i
      · cases h; exact List.mem_cons_self
      · refine List.mem_cons_of_mem _ ?_
        have := ih (off + 1) i v h hv
        rw [show off + (i + 1) = off + 1 + i by omega]
        exact this
theorem lsE_len (ad sa : Nat → Nat) : ∀ args : List AV, (lg_sl (args.map (tv ad sa))).length = (lsE args).length := by
  intro args
  induction args with
  | nil => rfl
  | cons a r ih =>
    have hc := tv_cat ad sa a
    have e1 : lg_sl ((a :: r).map (tv ad sa)) = (if (tv ad sa a).category = 2 then [.val (tv ad sa a), .second] else [.val (tv ad sa a)]) ++ lg_sl (r.map (tv ad sa)) := by simp [lg_sl]
    have e2 : lsE (a :: r) = (if isL a then [a, aU] else [a]) ++ lsE r := by simp [lsE]
    rw [e1, e2, List.length_append, List.length_append, ih, hc]
    cases isL a <;> rfl
theorem LV.entry {ad sa : Nat → Nat} {y : Nat} {args : List AV} (h : (lsE args).length ≤ mml y) (hm : mhl y = false → ∀ v ∈ args, isL v = false) :
    LV ad sa y ((lg_sl (args.map (tv ad sa)) ++ List.replicate (mml y - (lg_sl (args.map (tv ad sa))).length) Slot.unset).toArray) (entL y args) := by
  have hl := lsE_len ad sa args
  have he := lv_entry (args.map (tv ad sa)) (n := mml y) (by omega)
  refine ⟨he.1, he.2.1, by simp only [entL, List.length_append, List.length_replicate]; omega, fun hn v hv => ?_, fun i v hi hv => ?_⟩
  · rcases List.mem_append.mp hv with h1 | h1
    · unfold lsE at h1
      rw [List.mem_flatMap] at h1
      obtain ⟨u, hu, hvu⟩ := h1
      rw [hm hn u hu] at hvu
      have : v = u := by simpa using hvu
      rw [this]; exact hm hn u hu
    · rw [(List.mem_replicate.mp h1).2]; rfl
  · unfold entL at hi
    by_cases hlt : i < (lsE args).length
    · rw [List.getElem?_append_left hlt] at hi
      have := he.2.2 _ (lsE_args ad sa args 0 i v hi hv)
      simpa using this
    · rw [List.getElem?_append_right (by omega)] at hi
      exact absurd (List.mem_replicate.mp (List.mem_of_getElem? hi)).2 hv
