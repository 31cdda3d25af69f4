-- the class: what is alike, what a baker gets, chances, what keeps hot
theorem getD_last (v : Int) : ∀ (L : List Int), (L ++ [v]).getD L.length 0 = v := by
  intro L
  induction L with
  | nil => rfl
  | cons x t ih => exact ih
theorem getD_app (v : Int) : ∀ (L : List Int) (j : Nat), j < L.length → (L ++ [v]).getD j 0 = L.getD j 0 := by
  intro L
  induction L with
  | nil => intro j hj; exact absurd hj (Nat.not_lt_zero j)
  | cons x t ih =>
    intro j hj
    cases j with
    | zero => rfl
    | succ j => exact ih j (Nat.lt_of_succ_lt_succ hj)
section NOW3
variable {d : Nat} {σ : SG} {K : AV → SG → Prop} {Q : AV → SG → Prop}
theorem alike_end {τ : SG} {L : List Int} (hL : L.length ≤ 7) (hv : ∀ j, j < L.length → ga τ 70 (j : Int) = L.getD j 0) : mostF (fun x => ga τ 70 (x : Int)) L.length = mostL L := by
  rw [← mostF_get]
  exact mostF_congr hv
/-- one more behind the row L in the cells 70 -/
theorem alike_step {τ : SG} {L : List Int} {v : Int} (hi : InR v) (hv : ∀ j, j < L.length → ga τ 70 (j : Int) = L.getD j 0) : ∀ j, j < (L ++ [v]).length → ga (ua τ 70 (L.length : Int) v) 70 (j : Int) = (L ++ [v]).getD j 0 := by
  intro j hj
  rw [List.length_append, List.length_singleton] at hj
  rw [ga_ua _ _ _ _ _ _ (by omega) (by omega), if_pos rfl]
  by_cases h : j = L.length
  · subst h
    rw [if_pos rfl, wr_id hi, getD_last]
  · rw [if_neg (by omega), hv j (by omega), getD_app v L j (by omega)]
/-- 107: lies that an oven takes alike -/
def tak107 (σ : SG) (o k dd : Int) (i : Nat) : Int := tkI (ga σ 5 o) (ltI (ga σ 2 (i : Int)) (ga σ 3 (i : Int)) k dd) (ga σ 6 o)
theorem l107 (hO : TOK σ 1) {o bits k dd : Int} (ho : 0 ≤ o ∧ o < gg σ 1 1) (hb : 0 ≤ bits ∧ bits < 2147483648) (hk : 0 ≤ k ∧ k ≤ 9) (hd : 0 ≤ dd ∧ dd ≤ 100) : ∀ (n i : Nat) (L : List Int) (τ : SG) (w7 : AV), (i : Int) + n = gg σ 1 0 → L.length ≤ i → SAM S70 σ τ →
    (∀ j, j < L.length → ga τ 70 (j : Int) = L.getD j 0) → (∀ τ', SAM S70 σ τ' → Q (.inl (mostL (L ++ cmpF (hasb bits) (tak107 σ o k dd) i n))) τ') →
    Wp none (d + 3) 107 6 [.inr (.inr (.inl 0)), .inl o, .inl bits, .inl k, .inl dd, .inl (L.length : Int), .inl (i : Int), w7] [] τ Q := by
  obtain ⟨o1, o2, o3, o4, o5⟩ := TOK1 hO
  obtain ⟨c1, c2⟩ := o5 o ho.1 ho.2
  intro n
  induction n with
  | zero =>
    intro i L τ w7 h hl hs hv hq
    have eg : gg τ 1 0 = (i : Int) := by rw [hs.1 1 0 (by unfold S70; omega)]; omega
    have em := alike_end (by omega) hv
    simp (disch := first | with_reducible assumption | omega | exact ga_in _ _ _ | exact gg_in _ _ _ | (unfold InR; omega) | (unfold InL; omega) | (simp only [shC_0, shC_1, shC_2, shC_3, shC_4, shC_5, shC_6, shC_7, shC_8, shC_9, shC_10, shC_11, shC_12, shC_13, shC_14, shC_29, shC_58, shC_59, shC_60, shC_61, shC_62, shC_63, shC_64, shC_65, shC_66, shC_67, shC_68, shC_69, shC_70, shL_2, shL_3, shL_4, shL_5, shL_6, shL_8, shL_10, shL_12, shL_14, shL_29, shL_58, shL_60, shL_62, shL_63, shL_65, shL_66, shL_67, shL_68, shL_69, shL_70]; first | done | omega)) only [q107_6, q107_8, q107_9, q107_12, q107_15, q107_104, q107_105, q107_108, q107_110, q107_113, shC_0, shC_1, shR_0_0, shR_0_7, shC_70, shL_70, eg, Int.le_refl, k93, em, pushR_I, pushR_L, pushR_R, pushR_V, InR_gg, InR_ga, InR_wr, InL_gl, InR_b, b01, b01_0, if_true, if_false, not_true_eq_false, not_false_eq_true, and_true, true_and, and_self, Sum.inl.injEq, one0, Bool.false_eq_true]
    have := hq τ hs
    simpa only [cmpF, List.append_nil] using this
  | succ n ih =>
    intro i L τ w7 h hl hs hv hq
    have eg : gg τ 1 0 = gg σ 1 0 := hs.1 1 0 (by unfold S70; omega)
    have e : ¬ gg σ 1 0 ≤ (i : Int) := by omega
    obtain ⟨b1, b2, b3⟩ := o4 (i : Int) (by omega) (by omega)
    have ea : ∀ a x, ¬ a = 70 → ga τ a x = ga σ a x := fun a x hn => hs.1 a _ hn
    have b6 := ltI_b (kind := ga σ 2 (i : Int)) (x := dd) (u := ga σ 3 (i : Int)) (k := k) (by omega) (by omega)
    have b7 := tkI_b (kind := ga σ 5 o) (x := ltI (ga σ 2 (i : Int)) (ga σ 3 (i : Int)) k dd) (h := ga σ 6 o) (by omega) c2
    by_cases hp : bits / 2 ^ (i : Int).toNat % 2 = 1
    · have hp' : hasb bits i = true := decide_eq_true (by rw [Int.toNat_natCast] at hp; exact hp)
      simp (disch := first | with_reducible assumption | omega | exact ga_in _ _ _ | exact gg_in _ _ _ | (unfold InR; omega) | (unfold InL; omega) | (simp only [shC_0, shC_1, shC_2, shC_3, shC_4, shC_5, shC_6, shC_7, shC_8, shC_9, shC_10, shC_11, shC_12, shC_13, shC_14, shC_29, shC_58, shC_59, shC_60, shC_61, shC_62, shC_63, shC_64, shC_65, shC_66, shC_67, shC_68, shC_69, shC_70, shL_2, shL_3, shL_4, shL_5, shL_6, shL_8, shL_10, shL_12, shL_14, shL_29, shL_58, shL_60, shL_62, shL_63, shL_65, shL_66, shL_67, shL_68, shL_69, shL_70]; first | done | omega)) only [q107_6, q107_8, q107_9, q107_12, q107_15, q107_18, q107_19, q107_21, q107_24, q107_27, q107_28, q107_31, q107_34, q107_36, q107_39, q107_40, q107_43, q107_46, q107_48, q107_51, q107_52, q107_54, q107_57, q107_59, q107_60, q107_63, q107_65, q107_66, q107_69, q107_72, q107_73, q107_76, q107_78, q107_79, q107_82, q107_85, q107_86, q107_89, q107_92, q107_95, q107_98, shC_0, shC_1, shR_0_0, shR_0_7, shR_1_3, shR_1_4, shR_1_6, shR_1_7, shC_2, shL_2, shC_3, shL_3, shC_5, shL_5, shC_6, shL_6, shC_70, shL_70, eg, e, ea, hp, k88, k89, k90, k94, k95, pushR_I, pushR_L, pushR_R, pushR_V, InR_gg, InR_ga, InR_wr, InL_gl, InR_b, b01, b01_0, if_true, if_false, not_true_eq_false, not_false_eq_true, and_true, true_and, and_self, Sum.inl.injEq, one0, Bool.false_eq_true]
      rw [q107_101]
      have e1 : ((L ++ [tak107 σ o k dd i]).length : Int) = (L.length : Int) + 1 := by rw [List.length_append, List.length_singleton]; rfl
      have := ih (i + 1) (L ++ [tak107 σ o k dd i]) (ua τ 70 (L.length : Int) (tak107 σ o k dd i)) (.inl (ltI (ga σ 2 (i : Int)) (ga σ 3 (i : Int)) k dd)) (by omega) (by rw [List.length_append, List.length_singleton]; omega) (SAM_ua hs rfl) (alike_step ⟨by unfold tak107; omega, by unfold tak107; omega⟩ hv) (fun τ' ht => by
        have := hq τ' ht
        simp only [cmpF, hp', if_true] at this
        rw [List.append_assoc]
        exact this)
      rw [e1] at this
      exact this
    · have hp' : hasb bits i = false := decide_eq_false (by rw [Int.toNat_natCast] at hp; exact hp)
      simp (disch := first | with_reducible assumption | omega | exact ga_in _ _ _ | exact gg_in _ _ _ | (unfold InR; omega) | (unfold InL; omega) | (simp only [shC_0, shC_1, shC_2, shC_3, shC_4, shC_5, shC_6, shC_7, shC_8, shC_9, shC_10, shC_11, shC_12, shC_13, shC_14, shC_29, shC_58, shC_59, shC_60, shC_61, shC_62, shC_63, shC_64, shC_65, shC_66, shC_67, shC_68, shC_69, shC_70, shL_2, shL_3, shL_4, shL_5, shL_6, shL_8, shL_10, shL_12, shL_14, shL_29, shL_58, shL_60, shL_62, shL_63, shL_65, shL_66, shL_67, shL_68, shL_69, shL_70]; first | done | omega)) only [q107_6, q107_8, q107_9, q107_12, q107_15, q107_18, q107_19, q107_21, q107_24, q107_27, q107_28, q107_31, q107_34, q107_36, q107_39, q107_40, q107_43, q107_46, q107_48, q107_51, q107_52, q107_54, q107_57, q107_59, q107_60, q107_63, q107_65, q107_66, q107_69, q107_72, q107_73, q107_76, q107_78, q107_79, q107_82, q107_85, q107_86, q107_89, q107_92, q107_95, q107_98, shC_0, shC_1, shR_0_0, eg, e, hp, k88, pushR_I, pushR_L, pushR_R, pushR_V, InR_gg, InR_ga, InR_wr, InL_gl, InR_b, b01, b01_0, if_true, if_false, not_true_eq_false, not_false_eq_true, and_true, true_and, and_self, Sum.inl.injEq, one0, Bool.false_eq_true]
      rw [q107_101]
      exact ih (i + 1) L τ w7 (by omega) (by omega) hs hv (fun τ' ht => by
        have := hq τ' ht
        simp only [cmpF, hp', Bool.false_eq_true, if_false] at this
        exact this)
theorem m107 (hO : TOK σ 1) {o bits k dd : Int} (ho : 0 ≤ o ∧ o < gg σ 1 1) (hb : 0 ≤ bits ∧ bits < 2147483648) (hk : 0 ≤ k ∧ k ≤ 9) (hd : 0 ≤ dd ∧ dd ≤ 100) : CalE (d + 4) 107 [.inr (.inr (.inl 0)), .inl o, .inl bits, .inl k, .inl dd] σ (fun r τ => r = .inl (mostL (cmpF (hasb bits) (tak107 σ o k dd) 0 (gg σ 1 0).toNat)) ∧ SAM S70 σ τ) := by
  have hO' := hO
  obtain ⟨o1, -⟩ := TOK1 hO
  refine Cal_ex (ls := [.inr (.inr (.inl 0)), .inl o, .inl bits, .inl k, .inl dd, aU, aU, aU]) rfl mna_107 mml_107 mhl_107 rfl rfl ?_
  simp (disch := first | with_reducible assumption | omega | exact ga_in _ _ _ | exact gg_in _ _ _ | (unfold InR; omega) | (unfold InL; omega) | (simp only [shC_0, shC_1, shC_2, shC_3, shC_4, shC_5, shC_6, shC_7, shC_8, shC_9, shC_10, shC_11, shC_12, shC_13, shC_14, shC_29, shC_58, shC_59, shC_60, shC_61, shC_62, shC_63, shC_64, shC_65, shC_66, shC_67, shC_68, shC_69, shC_70, shL_2, shL_3, shL_4, shL_5, shL_6, shL_8, shL_10, shL_12, shL_14, shL_29, shL_58, shL_60, shL_62, shL_63, shL_65, shL_66, shL_67, shL_68, shL_69, shL_70]; first | done | omega)) only [q107_0, q107_1, q107_3, q107_4, pushR_I, pushR_L, pushR_R, pushR_V, InR_gg, InR_ga, InR_wr, InL_gl, InR_b, b01, b01_0, if_true, if_false, not_true_eq_false, not_false_eq_true, and_true, true_and, and_self, Sum.inl.injEq, one0, Bool.false_eq_true]
  exact l107 (d := d) hO' ho hb hk hd (gg σ 1 0).toNat 0 [] σ _ (by omega) (Nat.le_refl 0) (SAM_refl _ _) (fun j hj => absurd hj (Nat.not_lt_zero j)) (fun τ' ht => ⟨rfl, ht⟩)
/-- 108: kinds of lies that light alike -/
theorem l108 {u bits k dd : Int} (hu : 0 ≤ u ∧ u ≤ 9) (hb : 0 ≤ bits ∧ bits < 2147483648) (hk : 0 ≤ k ∧ k ≤ 9) (hd : 0 ≤ dd ∧ dd ≤ 100) : ∀ (n i : Nat) (L : List Int) (τ : SG), i + n = 6 → L.length ≤ i → SAM S70 σ τ →
    (∀ j, j < L.length → ga τ 70 (j : Int) = L.getD j 0) → (∀ τ', SAM S70 σ τ' → Q (.inl (mostL (L ++ cmpF (hasb bits) (fun i => ltI (i : Int) u k dd) i n))) τ') →
    Wp none (d + 3) 108 6 [.inr (.inr (.inl 0)), .inl bits, .inl u, .inl k, .inl dd, .inl (L.length : Int), .inl (i : Int)] [] τ Q := by
  intro n
  induction n with
  | zero =>
    intro i L τ h hl hs hv hq
    have eg : (6 : Int) ≤ (i : Int) := by omega
    have em := alike_end (by omega) hv
    simp (disch := first | with_reducible assumption | omega | exact ga_in _ _ _ | exact gg_in _ _ _ | (unfold InR; omega) | (unfold InL; omega) | (simp only [shC_0, shC_1, shC_2, shC_3, shC_4, shC_5, shC_6, shC_7, shC_8, shC_9, shC_10, shC_11, shC_12, shC_13, shC_14, shC_29, shC_58, shC_59, shC_60, shC_61, shC_62, shC_63, shC_64, shC_65, shC_66, shC_67, shC_68, shC_69, shC_70, shL_2, shL_3, shL_4, shL_5, shL_6, shL_8, shL_10, shL_12, shL_14, shL_29, shL_58, shL_60, shL_62, shL_63, shL_65, shL_66, shL_67, shL_68, shL_69, shL_70]; first | done | omega)) only [q108_6, q108_8, q108_10, q108_49, q108_50, q108_53, q108_55, q108_58, shC_0, shR_0_7, shC_70, shL_70, eg, k93, em, pushR_I, pushR_L, pushR_R, pushR_V, InR_gg, InR_ga, InR_wr, InL_gl, InR_b, b01, b01_0, if_true, if_false, not_true_eq_false, not_false_eq_true, and_true, true_and, and_self, Sum.inl.injEq, one0, Bool.false_eq_true]
    have := hq τ hs
    simpa only [cmpF, List.append_nil] using this
  | succ n ih =>
    intro i L τ h hl hs hv hq
    have e : ¬ (6 : Int) ≤ (i : Int) := by omega
    have b6 := ltI_b (kind := (i : Int)) (x := dd) (u := u) (k := k) (by omega) (by omega)
    by_cases hp : bits / 2 ^ (i : Int).toNat % 2 = 1
    · have hp' : hasb bits i = true := decide_eq_true (by rw [Int.toNat_natCast] at hp; exact hp)
      simp (disch := first | with_reducible assumption | omega | exact ga_in _ _ _ | exact gg_in _ _ _ | (unfold InR; omega) | (unfold InL; omega) | (simp only [shC_0, shC_1, shC_2, shC_3, shC_4, shC_5, shC_6, shC_7, shC_8, shC_9, shC_10, shC_11, shC_12, shC_13, shC_14, shC_29, shC_58, shC_59, shC_60, shC_61, shC_62, shC_63, shC_64, shC_65, shC_66, shC_67, shC_68, shC_69, shC_70, shL_2, shL_3, shL_4, shL_5, shL_6, shL_8, shL_10, shL_12, shL_14, shL_29, shL_58, shL_60, shL_62, shL_63, shL_65, shL_66, shL_67, shL_68, shL_69, shL_70]; first | done | omega)) only [q108_6, q108_8, q108_10, q108_13, q108_14, q108_16, q108_19, q108_22, q108_23, q108_26, q108_28, q108_30, q108_31, q108_32, q108_34, q108_37, q108_40, q108_43, shC_0, shR_0_7, shC_70, shL_70, e, hp, k88, k90, k94, pushR_I, pushR_L, pushR_R, pushR_V, InR_gg, InR_ga, InR_wr, InL_gl, InR_b, b01, b01_0, if_true, if_false, not_true_eq_false, not_false_eq_true, and_true, true_and, and_self, Sum.inl.injEq, one0, Bool.false_eq_true]
      rw [q108_46]
      have e1 : ((L ++ [ltI (i : Int) u k dd]).length : Int) = (L.length : Int) + 1 := by rw [List.length_append, List.length_singleton]; rfl
      have := ih (i + 1) (L ++ [ltI (i : Int) u k dd]) (ua τ 70 (L.length : Int) (ltI (i : Int) u k dd)) (by omega) (by rw [List.length_append, List.length_singleton]; omega) (SAM_ua hs rfl) (alike_step ⟨by omega, by omega⟩ hv) (fun τ' ht => by
        have := hq τ' ht
        simp only [cmpF, hp', if_true] at this
        rw [List.append_assoc]
        exact this)
      rw [e1] at this
      exact this
    · have hp' : hasb bits i = false := decide_eq_false (by rw [Int.toNat_natCast] at hp; exact hp)
      simp (disch := first | with_reducible assumption | omega | exact ga_in _ _ _ | exact gg_in _ _ _ | (unfold InR; omega) | (unfold InL; omega) | (simp only [shC_0, shC_1, shC_2, shC_3, shC_4, shC_5, shC_6, shC_7, shC_8, shC_9, shC_10, shC_11, shC_12, shC_13, shC_14, shC_29, shC_58, shC_59, shC_60, shC_61, shC_62, shC_63, shC_64, shC_65, shC_66, shC_67, shC_68, shC_69, shC_70, shL_2, shL_3, shL_4, shL_5, shL_6, shL_8, shL_10, shL_12, shL_14, shL_29, shL_58, shL_60, shL_62, shL_63, shL_65, shL_66, shL_67, shL_68, shL_69, shL_70]; first | done | omega)) only [q108_6, q108_8, q108_10, q108_13, q108_14, q108_16, q108_19, q108_22, q108_23, q108_26, q108_28, q108_30, q108_31, q108_32, q108_34, q108_37, q108_40, q108_43, e, hp, k88, pushR_I, pushR_L, pushR_R, pushR_V, InR_gg, InR_ga, InR_wr, InL_gl, InR_b, b01, b01_0, if_true, if_false, not_true_eq_false, not_false_eq_true, and_true, true_and, and_self, Sum.inl.injEq, one0, Bool.false_eq_true]
      rw [q108_46]
      exact ih (i + 1) L τ (by omega) (by omega) hs hv (fun τ' ht => by
        have := hq τ' ht
        simp only [cmpF, hp', Bool.false_eq_true, if_false] at this
        exact this)
theorem m108 {u bits k dd : Int} (hu : 0 ≤ u ∧ u ≤ 9) (hb : 0 ≤ bits ∧ bits < 2147483648) (hk : 0 ≤ k ∧ k ≤ 9) (hd : 0 ≤ dd ∧ dd ≤ 100) : CalE (d + 4) 108 [.inr (.inr (.inl 0)), .inl bits, .inl u, .inl k, .inl dd] σ (fun r τ => r = .inl (mostL (cmpF (hasb bits) (fun i => ltI (i : Int) u k dd) 0 6)) ∧ SAM S70 σ τ) := by
  refine Cal_ex (ls := [.inr (.inr (.inl 0)), .inl bits, .inl u, .inl k, .inl dd, aU, aU]) rfl mna_108 mml_108 mhl_108 rfl rfl ?_
  simp (disch := first | with_reducible assumption | omega | exact ga_in _ _ _ | exact gg_in _ _ _ | (unfold InR; omega) | (unfold InL; omega) | (simp only [shC_0, shC_1, shC_2, shC_3, shC_4, shC_5, shC_6, shC_7, shC_8, shC_9, shC_10, shC_11, shC_12, shC_13, shC_14, shC_29, shC_58, shC_59, shC_60, shC_61, shC_62, shC_63, shC_64, shC_65, shC_66, shC_67, shC_68, shC_69, shC_70, shL_2, shL_3, shL_4, shL_5, shL_6, shL_8, shL_10, shL_12, shL_14, shL_29, shL_58, shL_60, shL_62, shL_63, shL_65, shL_66, shL_67, shL_68, shL_69, shL_70]; first | done | omega)) only [q108_0, q108_1, q108_3, q108_4, pushR_I, pushR_L, pushR_R, pushR_V, InR_gg, InR_ga, InR_wr, InL_gl, InR_b, b01, b01_0, if_true, if_false, not_true_eq_false, not_false_eq_true, and_true, true_and, and_self, Sum.inl.injEq, one0, Bool.false_eq_true]
  exact l108 (d := d) hu hb hk hd 6 0 [] σ (by omega) (Nat.le_refl 0) (SAM_refl _ _) (fun j hj => absurd hj (Nat.not_lt_zero j)) (fun τ' ht => ⟨rfl, ht⟩)
/-- 109: kinds of ovens that take alike -/
theorem l109 {x bits h0 : Int} (hx : 0 ≤ x ∧ x ≤ 60) (hb : 0 ≤ bits ∧ bits < 2147483648) (hh : 0 ≤ h0 ∧ h0 ≤ 99) : ∀ (n i : Nat) (L : List Int) (τ : SG), i + n = 6 → L.length ≤ i → SAM S70 σ τ →
    (∀ j, j < L.length → ga τ 70 (j : Int) = L.getD j 0) → (∀ τ', SAM S70 σ τ' → Q (.inl (mostL (L ++ cmpF (hasb bits) (fun i => tkI (i : Int) x h0) i n))) τ') →
    Wp none (d + 3) 109 6 [.inr (.inr (.inl 0)), .inl bits, .inl x, .inl h0, .inl (L.length : Int), .inl (i : Int)] [] τ Q := by
  intro n
  induction n with
  | zero =>
    intro i L τ h hl hs hv hq
    have eg : (6 : Int) ≤ (i : Int) := by omega
    have em := alike_end (by omega) hv
    simp (disch := first | with_reducible assumption | omega | exact ga_in _ _ _ | exact gg_in _ _ _ | (unfold InR; omega) | (unfold InL; omega) | (simp only [shC_0, shC_1, shC_2, shC_3, shC_4, shC_5, shC_6, shC_7, shC_8, shC_9, shC_10, shC_11, shC_12, shC_13, shC_14, shC_29, shC_58, shC_59, shC_60, shC_61, shC_62, shC_63, shC_64, shC_65, shC_66, shC_67, shC_68, shC_69, shC_70, shL_2, shL_3, shL_4, shL_5, shL_6, shL_8, shL_10, shL_12, shL_14, shL_29, shL_58, shL_60, shL_62, shL_63, shL_65, shL_66, shL_67, shL_68, shL_69, shL_70]; first | done | omega)) only [q109_6, q109_8, q109_10, q109_47, q109_48, q109_51, q109_53, q109_56, shC_0, shR_0_7, shC_70, shL_70, eg, k93, em, pushR_I, pushR_L, pushR_R, pushR_V, InR_gg, InR_ga, InR_wr, InL_gl, InR_b, b01, b01_0, if_true, if_false, not_true_eq_false, not_false_eq_true, and_true, true_and, and_self, Sum.inl.injEq, one0, Bool.false_eq_true]
    have := hq τ hs
    simpa only [cmpF, List.append_nil] using this
  | succ n ih =>
    intro i L τ h hl hs hv hq
    have e : ¬ (6 : Int) ≤ (i : Int) := by omega
    have b6 := tkI_b (kind := (i : Int)) (x := x) (h := h0) (by omega) (by omega)
    by_cases hp : bits / 2 ^ (i : Int).toNat % 2 = 1
    · have hp' : hasb bits i = true := decide_eq_true (by rw [Int.toNat_natCast] at hp; exact hp)
      simp (disch := first | with_reducible assumption | omega | exact ga_in _ _ _ | exact gg_in _ _ _ | (unfold InR; omega) | (unfold InL; omega) | (simp only [shC_0, shC_1, shC_2, shC_3, shC_4, shC_5, shC_6, shC_7, shC_8, shC_9, shC_10, shC_11, shC_12, shC_13, shC_14, shC_29, shC_58, shC_59, shC_60, shC_61, shC_62, shC_63, shC_64, shC_65, shC_66, shC_67, shC_68, shC_69, shC_70, shL_2, shL_3, shL_4, shL_5, shL_6, shL_8, shL_10, shL_12, shL_14, shL_29, shL_58, shL_60, shL_62, shL_63, shL_65, shL_66, shL_67, shL_68, shL_69, shL_70]; first | done | omega)) only [q109_6, q109_8, q109_10, q109_13, q109_14, q109_16, q109_19, q109_22, q109_23, q109_26, q109_28, q109_30, q109_31, q109_32, q109_35, q109_38, q109_41, shC_0, shR_0_7, shC_70, shL_70, e, hp, k88, k90, k95, pushR_I, pushR_L, pushR_R, pushR_V, InR_gg, InR_ga, InR_wr, InL_gl, InR_b, b01, b01_0, if_true, if_false, not_true_eq_false, not_false_eq_true, and_true, true_and, and_self, Sum.inl.injEq, one0, Bool.false_eq_true]
      rw [q109_44]
      have e1 : ((L ++ [tkI (i : Int) x h0]).length : Int) = (L.length : Int) + 1 := by rw [List.length_append, List.length_singleton]; rfl
      have := ih (i + 1) (L ++ [tkI (i : Int) x h0]) (ua τ 70 (L.length : Int) (tkI (i : Int) x h0)) (by omega) (by rw [List.length_append, List.length_singleton]; omega) (SAM_ua hs rfl) (alike_step ⟨by omega, by omega⟩ hv) (fun τ' ht => by
        have := hq τ' ht
        simp only [cmpF, hp', if_true] at this
        rw [List.append_assoc]
        exact this)
      rw [e1] at this
      exact this
    · have hp' : hasb bits i = false := decide_eq_false (by rw [Int.toNat_natCast] at hp; exact hp)
      simp (disch := first | with_reducible assumption | omega | exact ga_in _ _ _ | exact gg_in _ _ _ | (unfold InR; omega) | (unfold InL; omega) | (simp only [shC_0, shC_1, shC_2, shC_3, shC_4, shC_5, shC_6, shC_7, shC_8, shC_9, shC_10, shC_11, shC_12, shC_13, shC_14, shC_29, shC_58, shC_59, shC_60, shC_61, shC_62, shC_63, shC_64, shC_65, shC_66, shC_67, shC_68, shC_69, shC_70, shL_2, shL_3, shL_4, shL_5, shL_6, shL_8, shL_10, shL_12, shL_14, shL_29, shL_58, shL_60, shL_62, shL_63, shL_65, shL_66, shL_67, shL_68, shL_69, shL_70]; first | done | omega)) only [q109_6, q109_8, q109_10, q109_13, q109_14, q109_16, q109_19, q109_22, q109_23, q109_26, q109_28, q109_30, q109_31, q109_32, q109_35, q109_38, q109_41, e, hp, k88, pushR_I, pushR_L, pushR_R, pushR_V, InR_gg, InR_ga, InR_wr, InL_gl, InR_b, b01, b01_0, if_true, if_false, not_true_eq_false, not_false_eq_true, and_true, true_and, and_self, Sum.inl.injEq, one0, Bool.false_eq_true]
      rw [q109_44]
      exact ih (i + 1) L τ (by omega) (by omega) hs hv (fun τ' ht => by
        have := hq τ' ht
        simp only [cmpF, hp', Bool.false_eq_true, if_false] at this
        exact this)
theorem m109 {x bits h0 : Int} (hx : 0 ≤ x ∧ x ≤ 60) (hb : 0 ≤ bits ∧ bits < 2147483648) (hh : 0 ≤ h0 ∧ h0 ≤ 99) : CalE (d + 4) 109 [.inr (.inr (.inl 0)), .inl bits, .inl x, .inl h0] σ (fun r τ => r = .inl (mostL (cmpF (hasb bits) (fun i => tkI (i : Int) x h0) 0 6)) ∧ SAM S70 σ τ) := by
  refine Cal_ex (ls := [.inr (.inr (.inl 0)), .inl bits, .inl x, .inl h0, aU, aU]) rfl mna_109 mml_109 mhl_109 rfl rfl ?_
  simp (disch := first | with_reducible assumption | omega | exact ga_in _ _ _ | exact gg_in _ _ _ | (unfold InR; omega) | (unfold InL; omega) | (simp only [shC_0, shC_1, shC_2, shC_3, shC_4, shC_5, shC_6, shC_7, shC_8, shC_9, shC_10, shC_11, shC_12, shC_13, shC_14, shC_29, shC_58, shC_59, shC_60, shC_61, shC_62, shC_63, shC_64, shC_65, shC_66, shC_67, shC_68, shC_69, shC_70, shL_2, shL_3, shL_4, shL_5, shL_6, shL_8, shL_10, shL_12, shL_14, shL_29, shL_58, shL_60, shL_62, shL_63, shL_65, shL_66, shL_67, shL_68, shL_69, shL_70]; first | done | omega)) only [q109_0, q109_1, q109_3, q109_4, pushR_I, pushR_L, pushR_R, pushR_V, InR_gg, InR_ga, InR_wr, InL_gl, InR_b, b01, b01_0, if_true, if_false, not_true_eq_false, not_false_eq_true, and_true, true_and, and_self, Sum.inl.injEq, one0, Bool.false_eq_true]
  exact l109 (d := d) hx hb hh 6 0 [] σ (by omega) (Nat.le_refl 0) (SAM_refl _ _) (fun j hj => absurd hj (Nat.not_lt_zero j)) (fun τ' ht => ⟨rfl, ht⟩)
/-- what a baker gets of i beside j -/
def getC (σ : SG) (i j : Int) : Int := if i = j then -3 else ga σ 70 i
theorem m110 {i j : Int} (hi : 0 ≤ i ∧ i < 7) (hj : 0 ≤ j ∧ j < 7) : Cal (d + 2) 110 [.inr (.inr (.inl 0)), .inl i, .inl j] σ (.inl (getC σ i j)) σ := by
  refine Cal_in (ls := [.inr (.inr (.inl 0)), .inl i, .inl j]) rfl mna_110 mml_110 mhl_110 rfl rfl ?_
  by_cases h : i = j
  · have e : getC σ i j = -3 := by unfold getC; rw [if_pos h]
    rw [e]
    simp (disch := first | with_reducible assumption | omega | exact ga_in _ _ _ | exact gg_in _ _ _ | (unfold InR; omega) | (unfold InL; omega) | (simp only [shC_0, shC_1, shC_2, shC_3, shC_4, shC_5, shC_6, shC_7, shC_8, shC_9, shC_10, shC_11, shC_12, shC_13, shC_14, shC_29, shC_58, shC_59, shC_60, shC_61, shC_62, shC_63, shC_64, shC_65, shC_66, shC_67, shC_68, shC_69, shC_70, shL_2, shL_3, shL_4, shL_5, shL_6, shL_8, shL_10, shL_12, shL_14, shL_29, shL_58, shL_60, shL_62, shL_63, shL_65, shL_66, shL_67, shL_68, shL_69, shL_70]; first | done | omega)) only [q110_0, q110_1, q110_2, q110_5, q110_7, q110_10, q110_11, q110_14, q110_15, q110_18, h, pushR_I, pushR_L, pushR_R, pushR_V, InR_gg, InR_ga, InR_wr, InL_gl, InR_b, b01, b01_0, if_true, if_false, not_true_eq_false, not_false_eq_true, and_true, true_and, and_self, Sum.inl.injEq, one0, Bool.false_eq_true]
  · have e : getC σ i j = ga σ 70 i := by unfold getC; rw [if_neg h]
    rw [e]
    simp (disch := first | with_reducible assumption | omega | exact ga_in _ _ _ | exact gg_in _ _ _ | (unfold InR; omega) | (unfold InL; omega) | (simp only [shC_0, shC_1, shC_2, shC_3, shC_4, shC_5, shC_6, shC_7, shC_8, shC_9, shC_10, shC_11, shC_12, shC_13, shC_14, shC_29, shC_58, shC_59, shC_60, shC_61, shC_62, shC_63, shC_64, shC_65, shC_66, shC_67, shC_68, shC_69, shC_70, shL_2, shL_3, shL_4, shL_5, shL_6, shL_8, shL_10, shL_12, shL_14, shL_29, shL_58, shL_60, shL_62, shL_63, shL_65, shL_66, shL_67, shL_68, shL_69, shL_70]; first | done | omega)) only [q110_0, q110_1, q110_2, q110_5, q110_7, q110_10, q110_11, q110_14, q110_15, q110_18, h, shC_0, shR_0_7, shC_70, shL_70, k89, pushR_I, pushR_L, pushR_R, pushR_V, InR_gg, InR_ga, InR_wr, InL_gl, InR_b, b01, b01_0, if_true, if_false, not_true_eq_false, not_false_eq_true, and_true, true_and, and_self, Sum.inl.injEq, one0, Bool.false_eq_true]
theorem k110 {i j : Int} (hi : 0 ≤ i ∧ i < 7) (hj : 0 ≤ j ∧ j < 7) : CalK (d + 2) 110 [.inr (.inr (.inl 0)), .inl i, .inl j] σ K = K (.inl (getC σ i j)) σ := CalK_eq (m110 hi hj)
theorem getC_r (σ : SG) (i j : Int) : InR (getC σ i j) := by unfold getC; split; exact ⟨by omega, by omega⟩; exact n32_in _
def bstC (σ : SG) (i j : Int) (x : Nat) : Bool := decide (¬ getC σ i j < getC σ (x : Int) j)
theorem l111 (h7 : gg σ 1 0 ≤ 7) {i j : Int} (hi : 0 ≤ i ∧ i < 7) (hj : 0 ≤ j ∧ j < 7) : ∀ (n x : Nat), (x : Int) + n = gg σ 1 0 → Wp none (d + 2) 111 2 [.inr (.inr (.inl 0)), .inl i, .inl j, .inl (x : Int)] [] σ Q = Q (.inl (if allF (bstC σ i j) x n then 1 else 0)) σ := by
  intro n
  induction n with
  | zero =>
    intro x h
    have e : gg σ 1 0 = (x : Int) := by omega
    simp (disch := first | with_reducible assumption | omega | exact ga_in _ _ _ | exact gg_in _ _ _ | (unfold InR; omega) | (unfold InL; omega) | (simp only [shC_0, shC_1, shC_2, shC_3, shC_4, shC_5, shC_6, shC_7, shC_8, shC_9, shC_10, shC_11, shC_12, shC_13, shC_14, shC_29, shC_58, shC_59, shC_60, shC_61, shC_62, shC_63, shC_64, shC_65, shC_66, shC_67, shC_68, shC_69, shC_70, shL_2, shL_3, shL_4, shL_5, shL_6, shL_8, shL_10, shL_12, shL_14, shL_29, shL_58, shL_60, shL_62, shL_63, shL_65, shL_66, shL_67, shL_68, shL_69, shL_70]; first | done | omega)) only [q111_2, q111_3, q111_4, q111_7, q111_10, q111_36, q111_37, shC_0, shC_1, shR_0_0, e, Int.le_refl, allF, pushR_I, pushR_L, pushR_R, pushR_V, InR_gg, InR_ga, InR_wr, InL_gl, InR_b, b01, b01_0, if_true, if_false, not_true_eq_false, not_false_eq_true, and_true, true_and, and_self, Sum.inl.injEq, one0, Bool.false_eq_true]
  | succ n ih =>
    intro x h
    have e : ¬ gg σ 1 0 ≤ (x : Int) := by omega
    have r1 := getC_r σ i j
    have r2 := getC_r σ (x : Int) j
    by_cases hc : getC σ i j < getC σ (x : Int) j
    · have ec : bstC σ i j x = false := decide_eq_false (fun q => q hc)
      have hc' : ¬ getC σ (x : Int) j ≤ getC σ i j := by omega
      simp (disch := first | with_reducible assumption | omega | exact ga_in _ _ _ | exact gg_in _ _ _ | (unfold InR; omega) | (unfold InL; omega) | (simp only [shC_0, shC_1, shC_2, shC_3, shC_4, shC_5, shC_6, shC_7, shC_8, shC_9, shC_10, shC_11, shC_12, shC_13, shC_14, shC_29, shC_58, shC_59, shC_60, shC_61, shC_62, shC_63, shC_64, shC_65, shC_66, shC_67, shC_68, shC_69, shC_70, shL_2, shL_3, shL_4, shL_5, shL_6, shL_8, shL_10, shL_12, shL_14, shL_29, shL_58, shL_60, shL_62, shL_63, shL_65, shL_66, shL_67, shL_68, shL_69, shL_70]; first | done | omega)) only [q111_2, q111_3, q111_4, q111_7, q111_10, q111_13, q111_14, q111_15, q111_16, q111_19, q111_20, q111_21, q111_22, q111_25, q111_28, q111_29, q111_30, shC_0, shC_1, shR_0_0, e, k110, hc, hc', allF, ec, Bool.false_and, Bool.false_eq_true, pushR_I, pushR_L, pushR_R, pushR_V, InR_gg, InR_ga, InR_wr, InL_gl, InR_b, b01, b01_0, if_true, if_false, not_true_eq_false, not_false_eq_true, and_true, true_and, and_self, Sum.inl.injEq, one0, Bool.false_eq_true]
    · have ec : bstC σ i j x = true := decide_eq_true hc
      have hc' : getC σ (x : Int) j ≤ getC σ i j := by omega
      simp (disch := first | with_reducible assumption | omega | exact ga_in _ _ _ | exact gg_in _ _ _ | (unfold InR; omega) | (unfold InL; omega) | (simp only [shC_0, shC_1, shC_2, shC_3, shC_4, shC_5, shC_6, shC_7, shC_8, shC_9, shC_10, shC_11, shC_12, shC_13, shC_14, shC_29, shC_58, shC_59, shC_60, shC_61, shC_62, shC_63, shC_64, shC_65, shC_66, shC_67, shC_68, shC_69, shC_70, shL_2, shL_3, shL_4, shL_5, shL_6, shL_8, shL_10, shL_12, shL_14, shL_29, shL_58, shL_60, shL_62, shL_63, shL_65, shL_66, shL_67, shL_68, shL_69, shL_70]; first | done | omega)) only [q111_2, q111_3, q111_4, q111_7, q111_10, q111_13, q111_14, q111_15, q111_16, q111_19, q111_20, q111_21, q111_22, q111_25, q111_28, q111_29, q111_30, shC_0, shC_1, shR_0_0, e, k110, hc, hc', pushR_I, pushR_L, pushR_R, pushR_V, InR_gg, InR_ga, InR_wr, InL_gl, InR_b, b01, b01_0, if_true, if_false, not_true_eq_false, not_false_eq_true, and_true, true_and, and_self, Sum.inl.injEq, one0, Bool.false_eq_true]
      rw [q111_33]
      refine (ih (x + 1) (by omega)).trans ?_
      simp only [allF, ec, Bool.true_and]
theorem m111 (h7 : 0 ≤ gg σ 1 0 ∧ gg σ 1 0 ≤ 7) {i j : Int} (hi : 0 ≤ i ∧ i < 7) (hj : 0 ≤ j ∧ j < 7) : Cal (d + 3) 111 [.inr (.inr (.inl 0)), .inl i, .inl j] σ (.inl (if allF (bstC σ i j) 0 (gg σ 1 0).toNat then 1 else 0)) σ := by
  refine Cal_in (ls := [.inr (.inr (.inl 0)), .inl i, .inl j, aU]) rfl mna_111 mml_111 mhl_111 rfl rfl ?_
  simp (disch := first | with_reducible assumption | omega | exact ga_in _ _ _ | exact gg_in _ _ _ | (unfold InR; omega) | (unfold InL; omega) | (simp only [shC_0, shC_1, shC_2, shC_3, shC_4, shC_5, shC_6, shC_7, shC_8, shC_9, shC_10, shC_11, shC_12, shC_13, shC_14, shC_29, shC_58, shC_59, shC_60, shC_61, shC_62, shC_63, shC_64, shC_65, shC_66, shC_67, shC_68, shC_69, shC_70, shL_2, shL_3, shL_4, shL_5, shL_6, shL_8, shL_10, shL_12, shL_14, shL_29, shL_58, shL_60, shL_62, shL_63, shL_65, shL_66, shL_67, shL_68, shL_69, shL_70]; first | done | omega)) only [q111_0, q111_1, pushR_I, pushR_L, pushR_R, pushR_V, InR_gg, InR_ga, InR_wr, InL_gl, InR_b, b01, b01_0, if_true, if_false, not_true_eq_false, not_false_eq_true, and_true, true_and, and_self, Sum.inl.injEq, one0, Bool.false_eq_true]
  exact (l111 (d := d) h7.2 hi hj (gg σ 1 0).toNat 0 (by omega)).mpr ⟨rfl, rfl⟩
theorem k111 (h7 : 0 ≤ gg σ 1 0 ∧ gg σ 1 0 ≤ 7) {i j : Int} (hi : 0 ≤ i ∧ i < 7) (hj : 0 ≤ j ∧ j < 7) : CalK (d + 3) 111 [.inr (.inr (.inl 0)), .inl i, .inl j] σ K = K (.inl (if allF (bstC σ i j) 0 (gg σ 1 0).toNat then 1 else 0)) σ := CalK_eq (m111 h7 hi hj)
/-- the chance, in tenths, that just those of came came true -/
def chF (came lies c : Int) : Nat → Nat → Int → Int
  | _, 0, a => a
  | i, n + 1, a => chF came lies c (i + 1) n (if hasb lies i then a * (if hasb came i then c else 10 - c) else a)
theorem l112 {came lies c : Int} (h1 : 0 ≤ came ∧ came < 2147483648) (h2 : 0 ≤ lies ∧ lies < 2147483648) (h3 : 0 ≤ c ∧ c ≤ 10) : ∀ (n i : Nat) (a : Int), i + n = 7 → Wp none (d + 2) 112 5 [.inl came, .inl lies, .inl c, .inr (.inl a), aU, .inl (i : Int)] [] σ Q = Q (.inr (.inl (chF came lies c i n a))) σ := by
  intro n
  induction n with
  | zero =>
    intro i a h
    have e : (7 : Int) ≤ (i : Int) := by omega
    simp (disch := first | with_reducible assumption | omega | exact ga_in _ _ _ | exact gg_in _ _ _ | (unfold InR; omega) | (unfold InL; omega) | (simp only [shC_0, shC_1, shC_2, shC_3, shC_4, shC_5, shC_6, shC_7, shC_8, shC_9, shC_10, shC_11, shC_12, shC_13, shC_14, shC_29, shC_58, shC_59, shC_60, shC_61, shC_62, shC_63, shC_64, shC_65, shC_66, shC_67, shC_68, shC_69, shC_70, shL_2, shL_3, shL_4, shL_5, shL_6, shL_8, shL_10, shL_12, shL_14, shL_29, shL_58, shL_60, shL_62, shL_63, shL_65, shL_66, shL_67, shL_68, shL_69, shL_70]; first | done | omega)) only [q112_5, q112_7, q112_9, q112_49, q112_50, e, chF, pushR_I, pushR_L, pushR_R, pushR_V, InR_gg, InR_ga, InR_wr, InL_gl, InR_b, b01, b01_0, if_true, if_false, not_true_eq_false, not_false_eq_true, and_true, true_and, and_self, Sum.inl.injEq, one0, Bool.false_eq_true]
  | succ n ih =>
    intro i a h
    have e : ¬ (7 : Int) ≤ (i : Int) := by omega
    by_cases hp : lies / 2 ^ (i : Int).toNat % 2 = 1
    · have hp' : hasb lies i = true := decide_eq_true (by rw [Int.toNat_natCast] at hp; exact hp)
      by_cases hq : came / 2 ^ (i : Int).toNat % 2 = 1
      · have hq' : hasb came i = true := decide_eq_true (by rw [Int.toNat_natCast] at hq; exact hq)
        simp (disch := first | with_reducible assumption | omega | exact ga_in _ _ _ | exact gg_in _ _ _ | (unfold InR; omega) | (unfold InL; omega) | (simp only [shC_0, shC_1, shC_2, shC_3, shC_4, shC_5, shC_6, shC_7, shC_8, shC_9, shC_10, shC_11, shC_12, shC_13, shC_14, shC_29, shC_58, shC_59, shC_60, shC_61, shC_62, shC_63, shC_64, shC_65, shC_66, shC_67, shC_68, shC_69, shC_70, shL_2, shL_3, shL_4, shL_5, shL_6, shL_8, shL_10, shL_12, shL_14, shL_29, shL_58, shL_60, shL_62, shL_63, shL_65, shL_66, shL_67, shL_68, shL_69, shL_70]; first | done | omega)) only [q112_5, q112_7, q112_9, q112_12, q112_13, q112_15, q112_18, q112_21, q112_22, q112_23, q112_25, q112_28, q112_31, q112_32, q112_33, q112_36, q112_38, q112_39, q112_40, q112_41, q112_42, q112_43, e, hp, hq, k88, pushR_I, pushR_L, pushR_R, pushR_V, InR_gg, InR_ga, InR_wr, InL_gl, InR_b, b01, b01_0, if_true, if_false, not_true_eq_false, not_false_eq_true, and_true, true_and, and_self, Sum.inl.injEq, one0, Bool.false_eq_true]
        rw [q112_46]
        refine (ih (i + 1) _ (by omega)).trans ?_
        simp only [chF, hp', hq', if_true]
      · have hq' : hasb came i = false := decide_eq_false (by rw [Int.toNat_natCast] at hq; exact hq)
        simp (disch := first | with_reducible assumption | omega | exact ga_in _ _ _ | exact gg_in _ _ _ | (unfold InR; omega) | (unfold InL; omega) | (simp only [shC_0, shC_1, shC_2, shC_3, shC_4, shC_5, shC_6, shC_7, shC_8, shC_9, shC_10, shC_11, shC_12, shC_13, shC_14, shC_29, shC_58, shC_59, shC_60, shC_61, shC_62, shC_63, shC_64, shC_65, shC_66, shC_67, shC_68, shC_69, shC_70, shL_2, shL_3, shL_4, shL_5, shL_6, shL_8, shL_10, shL_12, shL_14, shL_29, shL_58, shL_60, shL_62, shL_63, shL_65, shL_66, shL_67, shL_68, shL_69, shL_70]; first | done | omega)) only [q112_5, q112_7, q112_9, q112_12, q112_13, q112_15, q112_18, q112_21, q112_22, q112_23, q112_25, q112_28, q112_31, q112_32, q112_33, q112_36, q112_38, q112_39, q112_40, q112_41, q112_42, q112_43, e, hp, hq, k88, pushR_I, pushR_L, pushR_R, pushR_V, InR_gg, InR_ga, InR_wr, InL_gl, InR_b, b01, b01_0, if_true, if_false, not_true_eq_false, not_false_eq_true, and_true, true_and, and_self, Sum.inl.injEq, one0, Bool.false_eq_true]
        rw [q112_46]
        refine (ih (i + 1) _ (by omega)).trans ?_
        simp only [chF, hp', hq', if_true, Bool.false_eq_true, if_false]
    · have hp' : hasb lies i = false := decide_eq_false (by rw [Int.toNat_natCast] at hp; exact hp)
      simp (disch := first | with_reducible assumption | omega | exact ga_in _ _ _ | exact gg_in _ _ _ | (unfold InR; omega) | (unfold InL; omega) | (simp only [shC_0, shC_1, shC_2, shC_3, shC_4, shC_5, shC_6, shC_7, shC_8, shC_9, shC_10, shC_11, shC_12, shC_13, shC_14, shC_29, shC_58, shC_59, shC_60, shC_61, shC_62, shC_63, shC_64, shC_65, shC_66, shC_67, shC_68, shC_69, shC_70, shL_2, shL_3, shL_4, shL_5, shL_6, shL_8, shL_10, shL_12, shL_14, shL_29, shL_58, shL_60, shL_62, shL_63, shL_65, shL_66, shL_67, shL_68, shL_69, shL_70]; first | done | omega)) only [q112_5, q112_7, q112_9, q112_12, q112_13, q112_15, q112_18, q112_21, q112_22, q112_23, q112_25, q112_28, q112_31, q112_32, q112_33, q112_36, q112_38, q112_39, q112_40, q112_41, q112_42, q112_43, e, hp, k88, pushR_I, pushR_L, pushR_R, pushR_V, InR_gg, InR_ga, InR_wr, InL_gl, InR_b, b01, b01_0, if_true, if_false, not_true_eq_false, not_false_eq_true, and_true, true_and, and_self, Sum.inl.injEq, one0, Bool.false_eq_true]
      rw [q112_46]
      refine (ih (i + 1) _ (by omega)).trans ?_
      simp only [chF, hp', Bool.false_eq_true, if_false]
theorem m112 {came lies c : Int} (h1 : 0 ≤ came ∧ came < 2147483648) (h2 : 0 ≤ lies ∧ lies < 2147483648) (h3 : 0 ≤ c ∧ c ≤ 10) : Cal (d + 3) 112 [.inl came, .inl lies, .inl c] σ (.inr (.inl (chF came lies c 0 7 1))) σ := by
  refine Cal_in (ls := [.inl came, .inl lies, .inl c, aU, aU, aU]) rfl mna_112 mml_112 mhl_112 rfl rfl ?_
  simp (disch := first | with_reducible assumption | omega | exact ga_in _ _ _ | exact gg_in _ _ _ | (unfold InR; omega) | (unfold InL; omega) | (simp only [shC_0, shC_1, shC_2, shC_3, shC_4, shC_5, shC_6, shC_7, shC_8, shC_9, shC_10, shC_11, shC_12, shC_13, shC_14, shC_29, shC_58, shC_59, shC_60, shC_61, shC_62, shC_63, shC_64, shC_65, shC_66, shC_67, shC_68, shC_69, shC_70, shL_2, shL_3, shL_4, shL_5, shL_6, shL_8, shL_10, shL_12, shL_14, shL_29, shL_58, shL_60, shL_62, shL_63, shL_65, shL_66, shL_67, shL_68, shL_69, shL_70]; first | done | omega)) only [q112_0, q112_1, q112_2, q112_3, pushR_I, pushR_L, pushR_R, pushR_V, InR_gg, InR_ga, InR_wr, InL_gl, InR_b, b01, b01_0, if_true, if_false, not_true_eq_false, not_false_eq_true, and_true, true_and, and_self, Sum.inl.injEq, one0, Bool.false_eq_true]
  exact (l112 (d := d) h1 h2 h3 7 0 1 (by omega)).mpr ⟨rfl, rfl⟩
theorem k112 {came lies c : Int} (h1 : 0 ≤ came ∧ came < 2147483648) (h2 : 0 ≤ lies ∧ lies < 2147483648) (h3 : 0 ≤ c ∧ c ≤ 10) : CalK (d + 3) 112 [.inl came, .inl lies, .inl c] σ K = K (.inr (.inl (chF came lies c 0 7 1))) σ := CalK_eq (m112 h1 h2 h3)
/-- heat of o behind those of bits -/
def hbF (ok : Int) (lt : Nat → Int) (bits : Int) : Nat → Nat → Int → Int
  | _, 0, h => h
  | i, n + 1, h => hbF ok lt bits (i + 1) n (if hasb bits i then heI h (tkI ok (lt i) h) else h)
theorem l113 (hO : TOK σ 1) {o bits : Int} (ho : 0 ≤ o ∧ o < gg σ 1 1) (hb : 0 ≤ bits ∧ bits < 2147483648) : ∀ (n i : Nat) (h : Int) (w5 : AV), (i : Int) + n = gg σ 1 0 → 0 ≤ h ∧ h ≤ 99 → Wp none (d + 3) 113 15 [.inr (.inr (.inl 0)), .inl o, .inl bits, .inl h, .inl (i : Int), w5] [] σ Q = Q (.inl (hbF (ga σ 5 o) (fun i => ltT σ 1 (i : Int) (ga σ 4 (i : Int))) bits i n h)) σ := by
  have hO' := hO
  obtain ⟨o1, o2, o3, o4, o5⟩ := TOK1 hO
  obtain ⟨c1, c2⟩ := o5 o ho.1 ho.2
  intro n
  induction n with
  | zero =>
    intro i h w5 hi hh
    have e : gg σ 1 0 = (i : Int) := by omega
    simp (disch := first | with_reducible assumption | omega | exact ga_in _ _ _ | exact gg_in _ _ _ | (unfold InR; omega) | (unfold InL; omega) | (simp only [shC_0, shC_1, shC_2, shC_3, shC_4, shC_5, shC_6, shC_7, shC_8, shC_9, shC_10, shC_11, shC_12, shC_13, shC_14, shC_29, shC_58, shC_59, shC_60, shC_61, shC_62, shC_63, shC_64, shC_65, shC_66, shC_67, shC_68, shC_69, shC_70, shL_2, shL_3, shL_4, shL_5, shL_6, shL_8, shL_10, shL_12, shL_14, shL_29, shL_58, shL_60, shL_62, shL_63, shL_65, shL_66, shL_67, shL_68, shL_69, shL_70]; first | done | omega)) only [q113_15, q113_17, q113_18, q113_21, q113_24, q113_87, q113_88, shC_0, shC_1, shR_0_0, e, Int.le_refl, hbF, pushR_I, pushR_L, pushR_R, pushR_V, InR_gg, InR_ga, InR_wr, InL_gl, InR_b, b01, b01_0, if_true, if_false, not_true_eq_false, not_false_eq_true, and_true, true_and, and_self, Sum.inl.injEq, one0, Bool.false_eq_true]
  | succ n ih =>
    intro i h w5 hi hh
    have e : ¬ gg σ 1 0 ≤ (i : Int) := by omega
    obtain ⟨b1, b2, b3⟩ := o4 (i : Int) (by omega) (by omega)
    have b6 := ltI_b (kind := ga σ 2 (i : Int)) (x := gg σ 1 2) (u := ga σ 3 (i : Int)) (k := ga σ 4 (i : Int)) (by omega) (by omega)
    have b7 : 0 ≤ ltT σ 1 (i : Int) (ga σ 4 (i : Int)) ∧ ltT σ 1 (i : Int) (ga σ 4 (i : Int)) ≤ 4008 := b6
    have b8 := tkI_b (kind := ga σ 5 o) (x := ltT σ 1 (i : Int) (ga σ 4 (i : Int))) (h := h) b7 hh
    have b9 := heI_b (h := h) (m := tkI (ga σ 5 o) (ltT σ 1 (i : Int) (ga σ 4 (i : Int))) h) hh b8.1
    by_cases hp : bits / 2 ^ (i : Int).toNat % 2 = 1
    · have hp' : hasb bits i = true := decide_eq_true (by rw [Int.toNat_natCast] at hp; exact hp)
      simp (disch := first | with_reducible assumption | omega | exact ga_in _ _ _ | exact gg_in _ _ _ | (unfold InR; omega) | (unfold InL; omega) | (simp only [shC_0, shC_1, shC_2, shC_3, shC_4, shC_5, shC_6, shC_7, shC_8, shC_9, shC_10, shC_11, shC_12, shC_13, shC_14, shC_29, shC_58, shC_59, shC_60, shC_61, shC_62, shC_63, shC_64, shC_65, shC_66, shC_67, shC_68, shC_69, shC_70, shL_2, shL_3, shL_4, shL_5, shL_6, shL_8, shL_10, shL_12, shL_14, shL_29, shL_58, shL_60, shL_62, shL_63, shL_65, shL_66, shL_67, shL_68, shL_69, shL_70]; first | done | omega)) only [q113_15, q113_17, q113_18, q113_21, q113_24, q113_27, q113_28, q113_30, q113_33, q113_36, q113_37, q113_40, q113_42, q113_43, q113_46, q113_49, q113_51, q113_54, q113_57, q113_59, q113_60, q113_61, q113_64, q113_67, q113_68, q113_71, q113_73, q113_74, q113_77, q113_80, q113_81, shC_0, shC_1, shR_0_0, shR_1_5, shR_1_6, shC_4, shL_4, shC_5, shL_5, e, hp, k88, k89, k38 T1 hO', k95, k96, pushR_I, pushR_L, pushR_R, pushR_V, InR_gg, InR_ga, InR_wr, InL_gl, InR_b, b01, b01_0, if_true, if_false, not_true_eq_false, not_false_eq_true, and_true, true_and, and_self, Sum.inl.injEq, one0, Bool.false_eq_true]
      rw [q113_84]
      refine (ih (i + 1) _ _ (by omega) b9).trans ?_
      simp only [hbF, hp', if_true]
    · have hp' : hasb bits i = false := decide_eq_false (by rw [Int.toNat_natCast] at hp; exact hp)
      simp (disch := first | with_reducible assumption | omega | exact ga_in _ _ _ | exact gg_in _ _ _ | (unfold InR; omega) | (unfold InL; omega) | (simp only [shC_0, shC_1, shC_2, shC_3, shC_4, shC_5, shC_6, shC_7, shC_8, shC_9, shC_10, shC_11, shC_12, shC_13, shC_14, shC_29, shC_58, shC_59, shC_60, shC_61, shC_62, shC_63, shC_64, shC_65, shC_66, shC_67, shC_68, shC_69, shC_70, shL_2, shL_3, shL_4, shL_5, shL_6, shL_8, shL_10, shL_12, shL_14, shL_29, shL_58, shL_60, shL_62, shL_63, shL_65, shL_66, shL_67, shL_68, shL_69, shL_70]; first | done | omega)) only [q113_15, q113_17, q113_18, q113_21, q113_24, q113_27, q113_28, q113_30, q113_33, q113_36, q113_37, q113_40, q113_42, q113_43, q113_46, q113_49, q113_51, q113_54, q113_57, q113_59, q113_60, q113_61, q113_64, q113_67, q113_68, q113_71, q113_73, q113_74, q113_77, q113_80, q113_81, shC_0, shC_1, shR_0_0, e, hp, k88, pushR_I, pushR_L, pushR_R, pushR_V, InR_gg, InR_ga, InR_wr, InL_gl, InR_b, b01, b01_0, if_true, if_false, not_true_eq_false, not_false_eq_true, and_true, true_and, and_self, Sum.inl.injEq, one0, Bool.false_eq_true]
      rw [q113_84]
      refine (ih (i + 1) _ _ (by omega) hh).trans ?_
      simp only [hbF, hp', Bool.false_eq_true, if_false]
theorem m113 (hO : TOK σ 1) {o bits : Int} (ho : 0 ≤ o ∧ o < gg σ 1 1) (hb : 0 ≤ bits ∧ bits < 2147483648) : Cal (d + 4) 113 [.inr (.inr (.inl 0)), .inl o, .inl bits] σ (.inl (hbF (ga σ 5 o) (fun i => ltT σ 1 (i : Int) (ga σ 4 (i : Int))) bits 0 (gg σ 1 0).toNat (ga σ 6 o))) σ := by
  have hO' := hO
  obtain ⟨o1, o2, o3, o4, o5⟩ := TOK1 hO
  obtain ⟨c1, c2⟩ := o5 o ho.1 ho.2
  refine Cal_in (ls := [.inr (.inr (.inl 0)), .inl o, .inl bits, aU, aU, aU]) rfl mna_113 mml_113 mhl_113 rfl rfl ?_
  simp (disch := first | with_reducible assumption | omega | exact ga_in _ _ _ | exact gg_in _ _ _ | (unfold InR; omega) | (unfold InL; omega) | (simp only [shC_0, shC_1, shC_2, shC_3, shC_4, shC_5, shC_6, shC_7, shC_8, shC_9, shC_10, shC_11, shC_12, shC_13, shC_14, shC_29, shC_58, shC_59, shC_60, shC_61, shC_62, shC_63, shC_64, shC_65, shC_66, shC_67, shC_68, shC_69, shC_70, shL_2, shL_3, shL_4, shL_5, shL_6, shL_8, shL_10, shL_12, shL_14, shL_29, shL_58, shL_60, shL_62, shL_63, shL_65, shL_66, shL_67, shL_68, shL_69, shL_70]; first | done | omega)) only [q113_0, q113_1, q113_4, q113_7, q113_8, q113_11, q113_12, q113_13, shC_0, shC_1, shR_0_0, shR_1_7, shC_6, shL_6, k89, pushR_I, pushR_L, pushR_R, pushR_V, InR_gg, InR_ga, InR_wr, InL_gl, InR_b, b01, b01_0, if_true, if_false, not_true_eq_false, not_false_eq_true, and_true, true_and, and_self, Sum.inl.injEq, one0, Bool.false_eq_true]
  exact (l113 (d := d) hO' ho hb (gg σ 1 0).toNat 0 _ _ (by omega) c2).mpr ⟨rfl, rfl⟩
theorem k113 (hO : TOK σ 1) {o bits : Int} (ho : 0 ≤ o ∧ o < gg σ 1 1) (hb : 0 ≤ bits ∧ bits < 2147483648) : CalK (d + 4) 113 [.inr (.inr (.inl 0)), .inl o, .inl bits] σ K = K (.inl (hbF (ga σ 5 o) (fun i => ltT σ 1 (i : Int) (ga σ 4 (i : Int))) bits 0 (gg σ 1 0).toNat (ga σ 6 o))) σ := CalK_eq (m113 hO ho hb)
/-- does a lie said ahead of each day keep it hot -/
def kpF (kd u ok dd : Int) : Nat → Nat → Int → Int → Bool
  | _, 0, _, _ => true
  | i, n + 1, h, k => if coI (heI h (tkI ok (ltI kd u k (dd + (i : Int))) h)) 1 < 20 then false else kpF kd u ok dd (i + 1) n (coI (heI h (tkI ok (ltI kd u k (dd + (i : Int))) h)) 1) (kn1 k)
theorem coI_b {h m : Int} (h1 : 0 ≤ h ∧ h ≤ 99) (hm : 0 ≤ m) : 0 ≤ coI h m ∧ coI h m ≤ 99 := by unfold coI; split <;> omega
theorem kn1_b {k : Int} (h : 0 ≤ k ∧ k ≤ 9) : 0 ≤ kn1 k ∧ kn1 k ≤ 9 := by unfold kn1; split <;> omega
theorem l100 (hO : TOK σ 1) {o l m : Int} (ho : 0 ≤ o ∧ o < gg σ 1 1) (hl : 0 ≤ l ∧ l < gg σ 1 0) (hm : 0 ≤ m ∧ m ≤ 60) : ∀ (n i : Nat) (h k : Int) (w7 : AV), (i : Int) + n = m → 0 ≤ h ∧ h ≤ 99 → 0 ≤ k ∧ k ≤ 9 → Wp none (d + 1) 100 29 [.inr (.inr (.inl 0)), .inl l, .inl o, .inl m, .inl h, .inl k, .inl (i : Int), w7] [] σ Q = Q (.inl (if kpF (ga σ 2 l) (ga σ 3 l) (ga σ 5 o) (gg σ 1 2) i n h k then 1 else 0)) σ := by
  obtain ⟨o1, o2, o3, o4, o5⟩ := TOK1 hO
  obtain ⟨c1, c2⟩ := o5 o ho.1 ho.2
  obtain ⟨b1, b2, b3⟩ := o4 l hl.1 hl.2
  intro n
  induction n with
  | zero =>
    intro i h k w7 hi hh hk
    have e : m = (i : Int) := by omega
    subst e
    simp (disch := first | with_reducible assumption | omega | exact ga_in _ _ _ | exact gg_in _ _ _ | (unfold InR; omega) | (unfold InL; omega) | (simp only [shC_0, shC_1, shC_2, shC_3, shC_4, shC_5, shC_6, shC_7, shC_8, shC_9, shC_10, shC_11, shC_12, shC_13, shC_14, shC_29, shC_58, shC_59, shC_60, shC_61, shC_62, shC_63, shC_64, shC_65, shC_66, shC_67, shC_68, shC_69, shC_70, shL_2, shL_3, shL_4, shL_5, shL_6, shL_8, shL_10, shL_12, shL_14, shL_29, shL_58, shL_60, shL_62, shL_63, shL_65, shL_66, shL_67, shL_68, shL_69, shL_70]; first | done | omega)) only [q100_29, q100_31, q100_32, q100_125, q100_126, Int.le_refl, kpF, pushR_I, pushR_L, pushR_R, pushR_V, InR_gg, InR_ga, InR_wr, InL_gl, InR_b, b01, b01_0, if_true, if_false, not_true_eq_false, not_false_eq_true, and_true, true_and, and_self, Sum.inl.injEq, one0, Bool.false_eq_true]
  | succ n ih =>
    intro i h k w7 hi hh hk
    have e : ¬ m ≤ (i : Int) := by omega
    have b6 := ltI_b (kind := ga σ 2 l) (x := gg σ 1 2 + (i : Int)) (u := ga σ 3 l) (k := k) (by omega) (by omega)
    have b8 := tkI_b (kind := ga σ 5 o) (x := ltI (ga σ 2 l) (ga σ 3 l) k (gg σ 1 2 + (i : Int))) (h := h) b6 hh
    have b9 := heI_b (h := h) (m := tkI (ga σ 5 o) (ltI (ga σ 2 l) (ga σ 3 l) k (gg σ 1 2 + (i : Int))) h) hh b8.1
    have b10 := coI_b (m := 1) b9 (by omega)
    have b11 := kn1_b hk
    by_cases hc : coI (heI h (tkI (ga σ 5 o) (ltI (ga σ 2 l) (ga σ 3 l) k (gg σ 1 2 + (i : Int))) h)) 1 < 20
    · have hc' : ¬ 20 ≤ coI (heI h (tkI (ga σ 5 o) (ltI (ga σ 2 l) (ga σ 3 l) k (gg σ 1 2 + (i : Int))) h)) 1 := by omega
      simp (disch := first | with_reducible assumption | omega | exact ga_in _ _ _ | exact gg_in _ _ _ | (unfold InR; omega) | (unfold InL; omega) | (simp only [shC_0, shC_1, shC_2, shC_3, shC_4, shC_5, shC_6, shC_7, shC_8, shC_9, shC_10, shC_11, shC_12, shC_13, shC_14, shC_29, shC_58, shC_59, shC_60, shC_61, shC_62, shC_63, shC_64, shC_65, shC_66, shC_67, shC_68, shC_69, shC_70, shL_2, shL_3, shL_4, shL_5, shL_6, shL_8, shL_10, shL_12, shL_14, shL_29, shL_58, shL_60, shL_62, shL_63, shL_65, shL_66, shL_67, shL_68, shL_69, shL_70]; first | done | omega)) only [q100_29, q100_31, q100_32, q100_35, q100_36, q100_39, q100_42, q100_43, q100_46, q100_47, q100_50, q100_53, q100_54, q100_57, q100_59, q100_60, q100_63, q100_66, q100_68, q100_69, q100_72, q100_74, q100_76, q100_77, q100_80, q100_83, q100_84, q100_87, q100_89, q100_91, q100_94, q100_97, q100_98, q100_101, q100_103, q100_105, q100_108, q100_110, q100_112, q100_114, q100_117, q100_118, q100_119, shC_0, shC_1, shR_0_0, shR_1_3, shR_1_4, shR_1_6, shC_2, shL_2, shC_3, shL_3, shC_5, shL_5, e, k89, k94, k95, k96, k97, k99, hc, hc', kpF, Bool.false_eq_true, pushR_I, pushR_L, pushR_R, pushR_V, InR_gg, InR_ga, InR_wr, InL_gl, InR_b, b01, b01_0, if_true, if_false, not_true_eq_false, not_false_eq_true, and_true, true_and, and_self, Sum.inl.injEq, one0, Bool.false_eq_true]
    · have hc' : 20 ≤ coI (heI h (tkI (ga σ 5 o) (ltI (ga σ 2 l) (ga σ 3 l) k (gg σ 1 2 + (i : Int))) h)) 1 := by omega
      simp (disch := first | with_reducible assumption | omega | exact ga_in _ _ _ | exact gg_in _ _ _ | (unfold InR; omega) | (unfold InL; omega) | (simp only [shC_0, shC_1, shC_2, shC_3, shC_4, shC_5, shC_6, shC_7, shC_8, shC_9, shC_10, shC_11, shC_12, shC_13, shC_14, shC_29, shC_58, shC_59, shC_60, shC_61, shC_62, shC_63, shC_64, shC_65, shC_66, shC_67, shC_68, shC_69, shC_70, shL_2, shL_3, shL_4, shL_5, shL_6, shL_8, shL_10, shL_12, shL_14, shL_29, shL_58, shL_60, shL_62, shL_63, shL_65, shL_66, shL_67, shL_68, shL_69, shL_70]; first | done | omega)) only [q100_29, q100_31, q100_32, q100_35, q100_36, q100_39, q100_42, q100_43, q100_46, q100_47, q100_50, q100_53, q100_54, q100_57, q100_59, q100_60, q100_63, q100_66, q100_68, q100_69, q100_72, q100_74, q100_76, q100_77, q100_80, q100_83, q100_84, q100_87, q100_89, q100_91, q100_94, q100_97, q100_98, q100_101, q100_103, q100_105, q100_108, q100_110, q100_112, q100_114, q100_117, q100_118, q100_119, shC_0, shC_1, shR_0_0, shR_1_3, shR_1_4, shR_1_6, shC_2, shL_2, shC_3, shL_3, shC_5, shL_5, e, k89, k94, k95, k96, k97, k99, hc, hc', pushR_I, pushR_L, pushR_R, pushR_V, InR_gg, InR_ga, InR_wr, InL_gl, InR_b, b01, b01_0, if_true, if_false, not_true_eq_false, not_false_eq_true, and_true, true_and, and_self, Sum.inl.injEq, one0, Bool.false_eq_true]
      rw [q100_122]
      refine (ih (i + 1) _ _ _ (by omega) b10 b11).trans ?_
      simp only [kpF, hc, if_false]
theorem m100 (hO : TOK σ 1) {o l m : Int} (ho : 0 ≤ o ∧ o < gg σ 1 1) (hl : 0 ≤ l ∧ l < gg σ 1 0) (hm : 0 ≤ m ∧ m ≤ 60) : Cal (d + 2) 100 [.inr (.inr (.inl 0)), .inl l, .inl o, .inl m] σ (.inl (if kpF (ga σ 2 l) (ga σ 3 l) (ga σ 5 o) (gg σ 1 2) 0 m.toNat (ga σ 6 o) (ga σ 4 l) then 1 else 0)) σ := by
  have hO' := hO
  obtain ⟨o1, o2, o3, o4, o5⟩ := TOK1 hO
  obtain ⟨c1, c2⟩ := o5 o ho.1 ho.2
  obtain ⟨b1, b2, b3⟩ := o4 l hl.1 hl.2
  refine Cal_in (ls := [.inr (.inr (.inl 0)), .inl l, .inl o, .inl m, aU, aU, aU, aU]) rfl mna_100 mml_100 mhl_100 rfl rfl ?_
  simp (disch := first | with_reducible assumption | omega | exact ga_in _ _ _ | exact gg_in _ _ _ | (unfold InR; omega) | (unfold InL; omega) | (simp only [shC_0, shC_1, shC_2, shC_3, shC_4, shC_5, shC_6, shC_7, shC_8, shC_9, shC_10, shC_11, shC_12, shC_13, shC_14, shC_29, shC_58, shC_59, shC_60, shC_61, shC_62, shC_63, shC_64, shC_65, shC_66, shC_67, shC_68, shC_69, shC_70, shL_2, shL_3, shL_4, shL_5, shL_6, shL_8, shL_10, shL_12, shL_14, shL_29, shL_58, shL_60, shL_62, shL_63, shL_65, shL_66, shL_67, shL_68, shL_69, shL_70]; first | done | omega)) only [q100_0, q100_1, q100_4, q100_7, q100_8, q100_11, q100_13, q100_14, q100_17, q100_20, q100_21, q100_24, q100_26, q100_27, shC_0, shC_1, shR_0_0, shR_1_7, shR_1_5, shC_6, shL_6, shC_4, shL_4, k89, pushR_I, pushR_L, pushR_R, pushR_V, InR_gg, InR_ga, InR_wr, InL_gl, InR_b, b01, b01_0, if_true, if_false, not_true_eq_false, not_false_eq_true, and_true, true_and, and_self, Sum.inl.injEq, one0, Bool.false_eq_true]
  exact (l100 (d := d) hO' ho hl hm m.toNat 0 _ _ _ (by omega) c2 b3).mpr ⟨rfl, rfl⟩
theorem k100 (hO : TOK σ 1) {o l m : Int} (ho : 0 ≤ o ∧ o < gg σ 1 1) (hl : 0 ≤ l ∧ l < gg σ 1 0) (hm : 0 ≤ m ∧ m ≤ 60) : CalK (d + 2) 100 [.inr (.inr (.inl 0)), .inl l, .inl o, .inl m] σ K = K (.inl (if kpF (ga σ 2 l) (ga σ 3 l) (ga σ 5 o) (gg σ 1 2) 0 m.toNat (ga σ 6 o) (ga σ 4 l) then 1 else 0)) σ := CalK_eq (m100 hO ho hl hm)
theorem gcd_step (a b : Nat) : Nat.gcd b (a % b) = Nat.gcd a b := by rw [Nat.gcd_comm b, ← Nat.gcd_rec, Nat.gcd_comm]
end NOW3
