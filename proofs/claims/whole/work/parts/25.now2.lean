-- the class: notes, marks, what is alike
section NOW2
variable {d : Nat} {σ : SG} {K : AV → SG → Prop} {Q : AV → SG → Prop}
def noteC (σ : SG) (kd l : Int) (i : Nat) : Bool :=
  decide (¬ ga σ 10 ((i : Int) * 5 + 0) = l ∨ ltI kd (ga σ 10 ((i : Int) * 5 + 1)) (ga σ 10 ((i : Int) * 5 + 2)) (ga σ 10 ((i : Int) * 5 + 3)) = ga σ 10 ((i : Int) * 5 + 4))
theorem l104 (hS : NOTE σ) {kd l : Int} (h0 : 0 ≤ kd ∧ kd ≤ 5) (hl : InR l) : ∀ (n i : Nat) (w5 : AV), (i : Int) + n = gg σ 9 3 → Wp none (d + 2) 104 11 [.inr (.inr (.inl 0)), .inl kd, .inl l, .inr (.inr (.inl 9)), .inl (i : Int), w5] [] σ Q = Q (.inl (if allF (noteC σ kd l) i n then 1 else 0)) σ := by
  obtain ⟨s1, s0, s2, s3, s4⟩ := hS
  intro n
  induction n with
  | zero =>
    intro i w5 h
    have e : gg σ 9 3 = (i : Int) := by omega
    simp (disch := first | with_reducible assumption | omega | exact ga_in _ _ _ | exact gg_in _ _ _ | (unfold InR; omega) | (unfold InL; omega) | (simp only [shC_0, shC_1, shC_2, shC_3, shC_4, shC_5, shC_6, shC_7, shC_8, shC_9, shC_10, shC_11, shC_12, shC_13, shC_14, shC_29, shC_58, shC_59, shC_60, shC_61, shC_62, shC_63, shC_64, shC_65, shC_66, shC_67, shC_68, shC_69, shC_70, shL_2, shL_3, shL_4, shL_5, shL_6, shL_8, shL_10, shL_12, shL_14, shL_29, shL_58, shL_60, shL_62, shL_63, shL_65, shL_66, shL_67, shL_68, shL_69, shL_70]; first | done | omega)) only [q104_11, q104_13, q104_14, q104_17, q104_78, q104_79, shC_9, e, Int.le_refl, allF, pushR_I, pushR_L, pushR_R, pushR_V, InR_gg, InR_ga, InR_wr, InL_gl, InR_b, b01, b01_0, if_true, if_false, not_true_eq_false, not_false_eq_true, and_true, true_and, and_self, Sum.inl.injEq, one0, Bool.false_eq_true]
  | succ n ih =>
    intro i w5 h
    have e : ¬ gg σ 9 3 ≤ (i : Int) := by omega
    obtain ⟨b0, b1, b2, b3, b4⟩ := s4 (i : Int) (by omega) (by omega)
    have b6 := ltI_b (kind := kd) (x := ga σ 10 ((i : Int) * 5 + 3)) (u := ga σ 10 ((i : Int) * 5 + 1)) (k := ga σ 10 ((i : Int) * 5 + 2)) (by omega) (by omega)
    have hk28 : ∀ (j : Int), 0 ≤ j → j ≤ 4 → ∀ K', CalK (d + 2) 28 [.inr (.inr (.inl 9)), .inl (i : Int), .inl j] σ K' = K' (.inl (ga σ 10 ((i : Int) * 5 + j))) σ := by
      intro j h1 h2 K'
      have := k28 (d := d) (σ := σ) (K := K') (k := 9) (c := 10) (i := (i : Int)) (j := j) shC_9 shR_9_2 shC_10 (by rw [s1]; omega) (by rw [s1, shL_10]; omega)
      rw [s1] at this
      exact this
    by_cases hd0 : ga σ 10 ((i : Int) * 5 + 0) = l
    · by_cases hc : ltI kd (ga σ 10 ((i : Int) * 5 + 1)) (ga σ 10 ((i : Int) * 5 + 2)) (ga σ 10 ((i : Int) * 5 + 3)) = ga σ 10 ((i : Int) * 5 + 4)
      · have ec : noteC σ kd l i = true := decide_eq_true (Or.inr hc)
        simp (disch := first | with_reducible assumption | omega | exact ga_in _ _ _ | exact gg_in _ _ _ | (unfold InR; omega) | (unfold InL; omega) | (simp only [shC_0, shC_1, shC_2, shC_3, shC_4, shC_5, shC_6, shC_7, shC_8, shC_9, shC_10, shC_11, shC_12, shC_13, shC_14, shC_29, shC_58, shC_59, shC_60, shC_61, shC_62, shC_63, shC_64, shC_65, shC_66, shC_67, shC_68, shC_69, shC_70, shL_2, shL_3, shL_4, shL_5, shL_6, shL_8, shL_10, shL_12, shL_14, shL_29, shL_58, shL_60, shL_62, shL_63, shL_65, shL_66, shL_67, shL_68, shL_69, shL_70]; first | done | omega)) only [q104_11, q104_13, q104_14, q104_17, q104_20, q104_21, q104_22, q104_24, q104_25, q104_28, q104_29, q104_31, q104_32, q104_35, q104_36, q104_38, q104_39, q104_42, q104_45, q104_47, q104_48, q104_50, q104_51, q104_54, q104_55, q104_58, q104_60, q104_61, q104_63, q104_64, q104_67, q104_70, q104_71, q104_72, shC_9, e, hk28, k94, hd0, hc, pushR_I, pushR_L, pushR_R, pushR_V, InR_gg, InR_ga, InR_wr, InL_gl, InR_b, b01, b01_0, if_true, if_false, not_true_eq_false, not_false_eq_true, and_true, true_and, and_self, Sum.inl.injEq, one0, Bool.false_eq_true]
        rw [q104_75]
        refine (ih (i + 1) _ (by omega)).trans ?_
        simp only [allF, ec, Bool.true_and]
      · have ec : noteC σ kd l i = false := decide_eq_false (fun q => q.elim (fun z => z hd0) hc)
        simp (disch := first | with_reducible assumption | omega | exact ga_in _ _ _ | exact gg_in _ _ _ | (unfold InR; omega) | (unfold InL; omega) | (simp only [shC_0, shC_1, shC_2, shC_3, shC_4, shC_5, shC_6, shC_7, shC_8, shC_9, shC_10, shC_11, shC_12, shC_13, shC_14, shC_29, shC_58, shC_59, shC_60, shC_61, shC_62, shC_63, shC_64, shC_65, shC_66, shC_67, shC_68, shC_69, shC_70, shL_2, shL_3, shL_4, shL_5, shL_6, shL_8, shL_10, shL_12, shL_14, shL_29, shL_58, shL_60, shL_62, shL_63, shL_65, shL_66, shL_67, shL_68, shL_69, shL_70]; first | done | omega)) only [q104_11, q104_13, q104_14, q104_17, q104_20, q104_21, q104_22, q104_24, q104_25, q104_28, q104_29, q104_31, q104_32, q104_35, q104_36, q104_38, q104_39, q104_42, q104_45, q104_47, q104_48, q104_50, q104_51, q104_54, q104_55, q104_58, q104_60, q104_61, q104_63, q104_64, q104_67, q104_70, q104_71, q104_72, shC_9, e, hk28, k94, hd0, hc, allF, ec, Bool.false_and, pushR_I, pushR_L, pushR_R, pushR_V, InR_gg, InR_ga, InR_wr, InL_gl, InR_b, b01, b01_0, if_true, if_false, not_true_eq_false, not_false_eq_true, and_true, true_and, and_self, Sum.inl.injEq, one0, Bool.false_eq_true]
        all_goals rfl
    · have ec : noteC σ kd l i = true := decide_eq_true (Or.inl hd0)
      simp (disch := first | with_reducible assumption | omega | exact ga_in _ _ _ | exact gg_in _ _ _ | (unfold InR; omega) | (unfold InL; omega) | (simp only [shC_0, shC_1, shC_2, shC_3, shC_4, shC_5, shC_6, shC_7, shC_8, shC_9, shC_10, shC_11, shC_12, shC_13, shC_14, shC_29, shC_58, shC_59, shC_60, shC_61, shC_62, shC_63, shC_64, shC_65, shC_66, shC_67, shC_68, shC_69, shC_70, shL_2, shL_3, shL_4, shL_5, shL_6, shL_8, shL_10, shL_12, shL_14, shL_29, shL_58, shL_60, shL_62, shL_63, shL_65, shL_66, shL_67, shL_68, shL_69, shL_70]; first | done | omega)) only [q104_11, q104_13, q104_14, q104_17, q104_20, q104_21, q104_22, q104_24, q104_25, q104_28, q104_29, q104_31, q104_32, q104_35, q104_36, q104_38, q104_39, q104_42, q104_45, q104_47, q104_48, q104_50, q104_51, q104_54, q104_55, q104_58, q104_60, q104_61, q104_63, q104_64, q104_67, q104_70, q104_71, q104_72, shC_9, e, hk28, k94, hd0, pushR_I, pushR_L, pushR_R, pushR_V, InR_gg, InR_ga, InR_wr, InL_gl, InR_b, b01, b01_0, if_true, if_false, not_true_eq_false, not_false_eq_true, and_true, true_and, and_self, Sum.inl.injEq, one0, Bool.false_eq_true]
      rw [q104_75]
      refine (ih (i + 1) _ (by omega)).trans ?_
      simp only [allF, ec, Bool.true_and]
theorem m104 (hS : NOTE σ) {kd l : Int} (h0 : 0 ≤ kd ∧ kd ≤ 5) (hl : InR l) : Cal (d + 3) 104 [.inr (.inr (.inl 0)), .inl kd, .inl l] σ (.inl (if allF (noteC σ kd l) 0 (gg σ 9 3).toNat then 1 else 0)) σ := by
  have hS' := hS
  obtain ⟨s1, s0, s2, s3, s4⟩ := hS
  refine Cal_in (ls := [.inr (.inr (.inl 0)), .inl kd, .inl l, aU, aU, aU]) rfl mna_104 mml_104 mhl_104 rfl rfl ?_
  simp (disch := first | with_reducible assumption | omega | exact ga_in _ _ _ | exact gg_in _ _ _ | (unfold InR; omega) | (unfold InL; omega) | (simp only [shC_0, shC_1, shC_2, shC_3, shC_4, shC_5, shC_6, shC_7, shC_8, shC_9, shC_10, shC_11, shC_12, shC_13, shC_14, shC_29, shC_58, shC_59, shC_60, shC_61, shC_62, shC_63, shC_64, shC_65, shC_66, shC_67, shC_68, shC_69, shC_70, shL_2, shL_3, shL_4, shL_5, shL_6, shL_8, shL_10, shL_12, shL_14, shL_29, shL_58, shL_60, shL_62, shL_63, shL_65, shL_66, shL_67, shL_68, shL_69, shL_70]; first | done | omega)) only [q104_0, q104_1, q104_4, q104_7, q104_8, q104_9, shC_1, shR_1_9, pushR_I, pushR_L, pushR_R, pushR_V, InR_gg, InR_ga, InR_wr, InL_gl, InR_b, b01, b01_0, if_true, if_false, not_true_eq_false, not_false_eq_true, and_true, true_and, and_self, Sum.inl.injEq, one0, Bool.false_eq_true]
  refine (l104 (d := d) hS' h0 hl (gg σ 9 3).toNat 0 _ (by omega)).mpr ⟨rfl, rfl⟩
theorem k104 (hS : NOTE σ) {kd l : Int} (h0 : 0 ≤ kd ∧ kd ≤ 5) (hl : InR l) : CalK (d + 3) 104 [.inr (.inr (.inl 0)), .inl kd, .inl l] σ K = K (.inl (if allF (noteC σ kd l) 0 (gg σ 9 3).toNat then 1 else 0)) σ := CalK_eq (m104 hS h0 hl)
def markC (σ : SG) (kd o : Int) (i : Nat) : Bool :=
  decide (¬ ga σ 12 ((i : Int) * 4 + 0) = o ∨ tkI kd (ga σ 12 ((i : Int) * 4 + 2)) (ga σ 12 ((i : Int) * 4 + 1)) = ga σ 12 ((i : Int) * 4 + 3))
theorem l106 (hS : MARK σ) {kd l : Int} (h0 : 0 ≤ kd ∧ kd ≤ 5) (hl : InR l) : ∀ (n i : Nat) (w5 : AV), (i : Int) + n = gg σ 11 3 → Wp none (d + 2) 106 11 [.inr (.inr (.inl 0)), .inl kd, .inl l, .inr (.inr (.inl 11)), .inl (i : Int), w5] [] σ Q = Q (.inl (if allF (markC σ kd l) i n then 1 else 0)) σ := by
  obtain ⟨s1, s0, s2, s3, s4⟩ := hS
  intro n
  induction n with
  | zero =>
    intro i w5 h
    have e : gg σ 11 3 = (i : Int) := by omega
    simp (disch := first | with_reducible assumption | omega | exact ga_in _ _ _ | exact gg_in _ _ _ | (unfold InR; omega) | (unfold InL; omega) | (simp only [shC_0, shC_1, shC_2, shC_3, shC_4, shC_5, shC_6, shC_7, shC_8, shC_9, shC_10, shC_11, shC_12, shC_13, shC_14, shC_29, shC_58, shC_59, shC_60, shC_61, shC_62, shC_63, shC_64, shC_65, shC_66, shC_67, shC_68, shC_69, shC_70, shL_2, shL_3, shL_4, shL_5, shL_6, shL_8, shL_10, shL_12, shL_14, shL_29, shL_58, shL_60, shL_62, shL_63, shL_65, shL_66, shL_67, shL_68, shL_69, shL_70]; first | done | omega)) only [q106_11, q106_13, q106_14, q106_17, q106_71, q106_72, shC_11, e, Int.le_refl, allF, pushR_I, pushR_L, pushR_R, pushR_V, InR_gg, InR_ga, InR_wr, InL_gl, InR_b, b01, b01_0, if_true, if_false, not_true_eq_false, not_false_eq_true, and_true, true_and, and_self, Sum.inl.injEq, one0, Bool.false_eq_true]
  | succ n ih =>
    intro i w5 h
    have e : ¬ gg σ 11 3 ≤ (i : Int) := by omega
    obtain ⟨b0, b1, b2, b3⟩ := s4 (i : Int) (by omega) (by omega)
    have b6 := tkI_b (kind := kd) (x := ga σ 12 ((i : Int) * 4 + 2)) (h := ga σ 12 ((i : Int) * 4 + 1)) (by omega) (by omega)
    have hk28 : ∀ (j : Int), 0 ≤ j → j ≤ 3 → ∀ K', CalK (d + 2) 28 [.inr (.inr (.inl 11)), .inl (i : Int), .inl j] σ K' = K' (.inl (ga σ 12 ((i : Int) * 4 + j))) σ := by
      intro j h1 h2 K'
      have := k28 (d := d) (σ := σ) (K := K') (k := 11) (c := 12) (i := (i : Int)) (j := j) shC_11 shR_11_2 shC_12 (by rw [s1]; omega) (by rw [s1, shL_12]; omega)
      rw [s1] at this
      exact this
    by_cases hd0 : ga σ 12 ((i : Int) * 4 + 0) = l
    · by_cases hc : tkI kd (ga σ 12 ((i : Int) * 4 + 2)) (ga σ 12 ((i : Int) * 4 + 1)) = ga σ 12 ((i : Int) * 4 + 3)
      · have ec : markC σ kd l i = true := decide_eq_true (Or.inr hc)
        simp (disch := first | with_reducible assumption | omega | exact ga_in _ _ _ | exact gg_in _ _ _ | (unfold InR; omega) | (unfold InL; omega) | (simp only [shC_0, shC_1, shC_2, shC_3, shC_4, shC_5, shC_6, shC_7, shC_8, shC_9, shC_10, shC_11, shC_12, shC_13, shC_14, shC_29, shC_58, shC_59, shC_60, shC_61, shC_62, shC_63, shC_64, shC_65, shC_66, shC_67, shC_68, shC_69, shC_70, shL_2, shL_3, shL_4, shL_5, shL_6, shL_8, shL_10, shL_12, shL_14, shL_29, shL_58, shL_60, shL_62, shL_63, shL_65, shL_66, shL_67, shL_68, shL_69, shL_70]; first | done | omega)) only [q106_11, q106_13, q106_14, q106_17, q106_20, q106_21, q106_22, q106_24, q106_25, q106_28, q106_29, q106_31, q106_32, q106_35, q106_38, q106_40, q106_41, q106_43, q106_44, q106_47, q106_48, q106_51, q106_53, q106_54, q106_56, q106_57, q106_60, q106_63, q106_64, q106_65, shC_11, e, hk28, k95, hd0, hc, pushR_I, pushR_L, pushR_R, pushR_V, InR_gg, InR_ga, InR_wr, InL_gl, InR_b, b01, b01_0, if_true, if_false, not_true_eq_false, not_false_eq_true, and_true, true_and, and_self, Sum.inl.injEq, one0, Bool.false_eq_true]
        rw [q106_68]
        refine (ih (i + 1) _ (by omega)).trans ?_
        simp only [allF, ec, Bool.true_and]
      · have ec : markC σ kd l i = false := decide_eq_false (fun q => q.elim (fun z => z hd0) hc)
        simp (disch := first | with_reducible assumption | omega | exact ga_in _ _ _ | exact gg_in _ _ _ | (unfold InR; omega) | (unfold InL; omega) | (simp only [shC_0, shC_1, shC_2, shC_3, shC_4, shC_5, shC_6, shC_7, shC_8, shC_9, shC_10, shC_11, shC_12, shC_13, shC_14, shC_29, shC_58, shC_59, shC_60, shC_61, shC_62, shC_63, shC_64, shC_65, shC_66, shC_67, shC_68, shC_69, shC_70, shL_2, shL_3, shL_4, shL_5, shL_6, shL_8, shL_10, shL_12, shL_14, shL_29, shL_58, shL_60, shL_62, shL_63, shL_65, shL_66, shL_67, shL_68, shL_69, shL_70]; first | done | omega)) only [q106_11, q106_13, q106_14, q106_17, q106_20, q106_21, q106_22, q106_24, q106_25, q106_28, q106_29, q106_31, q106_32, q106_35, q106_38, q106_40, q106_41, q106_43, q106_44, q106_47, q106_48, q106_51, q106_53, q106_54, q106_56, q106_57, q106_60, q106_63, q106_64, q106_65, shC_11, e, hk28, k95, hd0, hc, allF, ec, Bool.false_and, pushR_I, pushR_L, pushR_R, pushR_V, InR_gg, InR_ga, InR_wr, InL_gl, InR_b, b01, b01_0, if_true, if_false, not_true_eq_false, not_false_eq_true, and_true, true_and, and_self, Sum.inl.injEq, one0, Bool.false_eq_true]
        all_goals rfl
    · have ec : markC σ kd l i = true := decide_eq_true (Or.inl hd0)
      simp (disch := first | with_reducible assumption | omega | exact ga_in _ _ _ | exact gg_in _ _ _ | (unfold InR; omega) | (unfold InL; omega) | (simp only [shC_0, shC_1, shC_2, shC_3, shC_4, shC_5, shC_6, shC_7, shC_8, shC_9, shC_10, shC_11, shC_12, shC_13, shC_14, shC_29, shC_58, shC_59, shC_60, shC_61, shC_62, shC_63, shC_64, shC_65, shC_66, shC_67, shC_68, shC_69, shC_70, shL_2, shL_3, shL_4, shL_5, shL_6, shL_8, shL_10, shL_12, shL_14, shL_29, shL_58, shL_60, shL_62, shL_63, shL_65, shL_66, shL_67, shL_68, shL_69, shL_70]; first | done | omega)) only [q106_11, q106_13, q106_14, q106_17, q106_20, q106_21, q106_22, q106_24, q106_25, q106_28, q106_29, q106_31, q106_32, q106_35, q106_38, q106_40, q106_41, q106_43, q106_44, q106_47, q106_48, q106_51, q106_53, q106_54, q106_56, q106_57, q106_60, q106_63, q106_64, q106_65, shC_11, e, hk28, k95, hd0, pushR_I, pushR_L, pushR_R, pushR_V, InR_gg, InR_ga, InR_wr, InL_gl, InR_b, b01, b01_0, if_true, if_false, not_true_eq_false, not_false_eq_true, and_true, true_and, and_self, Sum.inl.injEq, one0, Bool.false_eq_true]
      rw [q106_68]
      refine (ih (i + 1) _ (by omega)).trans ?_
      simp only [allF, ec, Bool.true_and]
theorem m106 (hS : MARK σ) {kd l : Int} (h0 : 0 ≤ kd ∧ kd ≤ 5) (hl : InR l) : Cal (d + 3) 106 [.inr (.inr (.inl 0)), .inl kd, .inl l] σ (.inl (if allF (markC σ kd l) 0 (gg σ 11 3).toNat then 1 else 0)) σ := by
  have hS' := hS
  obtain ⟨s1, s0, s2, s3, s4⟩ := hS
  refine Cal_in (ls := [.inr (.inr (.inl 0)), .inl kd, .inl l, aU, aU, aU]) rfl mna_106 mml_106 mhl_106 rfl rfl ?_
  simp (disch := first | with_reducible assumption | omega | exact ga_in _ _ _ | exact gg_in _ _ _ | (unfold InR; omega) | (unfold InL; omega) | (simp only [shC_0, shC_1, shC_2, shC_3, shC_4, shC_5, shC_6, shC_7, shC_8, shC_9, shC_10, shC_11, shC_12, shC_13, shC_14, shC_29, shC_58, shC_59, shC_60, shC_61, shC_62, shC_63, shC_64, shC_65, shC_66, shC_67, shC_68, shC_69, shC_70, shL_2, shL_3, shL_4, shL_5, shL_6, shL_8, shL_10, shL_12, shL_14, shL_29, shL_58, shL_60, shL_62, shL_63, shL_65, shL_66, shL_67, shL_68, shL_69, shL_70]; first | done | omega)) only [q106_0, q106_1, q106_4, q106_7, q106_8, q106_9, shC_1, shR_1_10, pushR_I, pushR_L, pushR_R, pushR_V, InR_gg, InR_ga, InR_wr, InL_gl, InR_b, b01, b01_0, if_true, if_false, not_true_eq_false, not_false_eq_true, and_true, true_and, and_self, Sum.inl.injEq, one0, Bool.false_eq_true]
  refine (l106 (d := d) hS' h0 hl (gg σ 11 3).toNat 0 _ (by omega)).mpr ⟨rfl, rfl⟩
theorem k106 (hS : MARK σ) {kd l : Int} (h0 : 0 ≤ kd ∧ kd ≤ 5) (hl : InR l) : CalK (d + 3) 106 [.inr (.inr (.inl 0)), .inl kd, .inl l] σ K = K (.inl (if allF (markC σ kd l) 0 (gg σ 11 3).toNat then 1 else 0)) σ := CalK_eq (m106 hS h0 hl)
def fit103 (σ : SG) (l : Int) (j : Nat) : Bool := allF (noteC σ (j : Int) l) 0 (gg σ 9 3).toNat
theorem l103 (hS : NOTE σ) {l : Int} (hl : InR l) : ∀ (n i : Nat) (a : Int), i + n = 6 → 0 ≤ a → a < 2 ^ i → Wp none (d + 3) 103 4 [.inr (.inr (.inl 0)), .inl l, .inl a, .inl (i : Int)] [] σ Q = Q (.inl (orF (fit103 σ l) i n a)) σ := by
  intro n
  induction n with
  | zero =>
    intro i a h h0 h1
    have e : i = 6 := by omega
    subst e
    have e0 : ((6 : Nat) : Int) = 6 := rfl
    simp (disch := first | with_reducible assumption | omega | exact ga_in _ _ _ | exact gg_in _ _ _ | (unfold InR; omega) | (unfold InL; omega) | (simp only [shC_0, shC_1, shC_2, shC_3, shC_4, shC_5, shC_6, shC_7, shC_8, shC_9, shC_10, shC_11, shC_12, shC_13, shC_14, shC_29, shC_58, shC_59, shC_60, shC_61, shC_62, shC_63, shC_64, shC_65, shC_66, shC_67, shC_68, shC_69, shC_70, shL_2, shL_3, shL_4, shL_5, shL_6, shL_8, shL_10, shL_12, shL_14, shL_29, shL_58, shL_60, shL_62, shL_63, shL_65, shL_66, shL_67, shL_68, shL_69, shL_70]; first | done | omega)) only [q103_4, q103_5, q103_7, q103_31, q103_32, e0, Int.le_refl, orF, pushR_I, pushR_L, pushR_R, pushR_V, InR_gg, InR_ga, InR_wr, InL_gl, InR_b, b01, b01_0, if_true, if_false, not_true_eq_false, not_false_eq_true, and_true, true_and, and_self, Sum.inl.injEq, one0, Bool.false_eq_true]
  | succ n ih =>
    intro i a h h0 h1
    have e : ¬ 6 ≤ (i : Int) := by omega
    have p7 : (2 : Int) ^ i ≤ 64 := by
      have : i = 0 ∨ i = 1 ∨ i = 2 ∨ i = 3 ∨ i = 4 ∨ i = 5 ∨ i = 6 := by omega
      rcases this with rfl | rfl | rfl | rfl | rfl | rfl | rfl <;> decide
    have p0 : (0 : Int) < 2 ^ i := Int.pow_pos (by omega)
    have q1 : (0 : Int) ≤ 1 * 2 ^ i := by omega
    have q2 : (1 : Int) * 2 ^ i < 2147483648 := by omega
    have q3 : (1 : Int) * 2 ^ i < 4294967296 := by omega
    have q4 : (1 : Int) * 2 ^ (i : Int).toNat < 4294967296 := by rw [Int.toNat_natCast]; exact q3
    have ha : a < 64 := by omega
    by_cases hc : fit103 σ l i = true
    · have ec : allF (noteC σ (i : Int) l) 0 (gg σ 9 3).toNat = true := hc
      simp (disch := first | with_reducible assumption | omega | exact ga_in _ _ _ | exact gg_in _ _ _ | (unfold InR; omega) | (unfold InL; omega) | (simp only [shC_0, shC_1, shC_2, shC_3, shC_4, shC_5, shC_6, shC_7, shC_8, shC_9, shC_10, shC_11, shC_12, shC_13, shC_14, shC_29, shC_58, shC_59, shC_60, shC_61, shC_62, shC_63, shC_64, shC_65, shC_66, shC_67, shC_68, shC_69, shC_70, shL_2, shL_3, shL_4, shL_5, shL_6, shL_8, shL_10, shL_12, shL_14, shL_29, shL_58, shL_60, shL_62, shL_63, shL_65, shL_66, shL_67, shL_68, shL_69, shL_70]; first | done | omega)) only [q103_4, q103_5, q103_7, q103_10, q103_11, q103_12, q103_13, q103_16, q103_19, q103_20, q103_21, q103_22, q103_23, q103_24, q103_25, e, k104 hS, ec, Int.toNat_natCast, pushR_I, pushR_L, pushR_R, pushR_V, InR_gg, InR_ga, InR_wr, InL_gl, InR_b, b01, b01_0, if_true, if_false, not_true_eq_false, not_false_eq_true, and_true, true_and, and_self, Sum.inl.injEq, one0, Bool.false_eq_true]
      rw [q103_28]
      obtain ⟨z1, z2⟩ := orB_lt h0 h1
      refine (ih (i + 1) (orB a i) (by omega) z1 z2).trans ?_
      simp only [orF, hc, if_true]
    · have ec : allF (noteC σ (i : Int) l) 0 (gg σ 9 3).toNat = false := by simpa [fit103] using hc
      simp (disch := first | with_reducible assumption | omega | exact ga_in _ _ _ | exact gg_in _ _ _ | (unfold InR; omega) | (unfold InL; omega) | (simp only [shC_0, shC_1, shC_2, shC_3, shC_4, shC_5, shC_6, shC_7, shC_8, shC_9, shC_10, shC_11, shC_12, shC_13, shC_14, shC_29, shC_58, shC_59, shC_60, shC_61, shC_62, shC_63, shC_64, shC_65, shC_66, shC_67, shC_68, shC_69, shC_70, shL_2, shL_3, shL_4, shL_5, shL_6, shL_8, shL_10, shL_12, shL_14, shL_29, shL_58, shL_60, shL_62, shL_63, shL_65, shL_66, shL_67, shL_68, shL_69, shL_70]; first | done | omega)) only [q103_4, q103_5, q103_7, q103_10, q103_11, q103_12, q103_13, q103_16, q103_19, q103_20, q103_21, q103_22, q103_23, q103_24, q103_25, e, k104 hS, ec, Bool.false_eq_true, pushR_I, pushR_L, pushR_R, pushR_V, InR_gg, InR_ga, InR_wr, InL_gl, InR_b, b01, b01_0, if_true, if_false, not_true_eq_false, not_false_eq_true, and_true, true_and, and_self, Sum.inl.injEq, one0, Bool.false_eq_true]
      rw [q103_28]
      refine (ih (i + 1) a (by omega) h0 (by rw [Int.pow_succ]; omega)).trans ?_
      simp only [orF, hc, Bool.false_eq_true, if_false]
theorem m103 (hS : NOTE σ) {l : Int} (hl : InR l) : Cal (d + 4) 103 [.inr (.inr (.inl 0)), .inl l] σ (.inl (orF (fit103 σ l) 0 6 0)) σ := by
  refine Cal_in (ls := [.inr (.inr (.inl 0)), .inl l, aU, aU]) rfl mna_103 mml_103 mhl_103 rfl rfl ?_
  simp (disch := first | with_reducible assumption | omega | exact ga_in _ _ _ | exact gg_in _ _ _ | (unfold InR; omega) | (unfold InL; omega) | (simp only [shC_0, shC_1, shC_2, shC_3, shC_4, shC_5, shC_6, shC_7, shC_8, shC_9, shC_10, shC_11, shC_12, shC_13, shC_14, shC_29, shC_58, shC_59, shC_60, shC_61, shC_62, shC_63, shC_64, shC_65, shC_66, shC_67, shC_68, shC_69, shC_70, shL_2, shL_3, shL_4, shL_5, shL_6, shL_8, shL_10, shL_12, shL_14, shL_29, shL_58, shL_60, shL_62, shL_63, shL_65, shL_66, shL_67, shL_68, shL_69, shL_70]; first | done | omega)) only [q103_0, q103_1, q103_2, q103_3, pushR_I, pushR_L, pushR_R, pushR_V, InR_gg, InR_ga, InR_wr, InL_gl, InR_b, b01, b01_0, if_true, if_false, not_true_eq_false, not_false_eq_true, and_true, true_and, and_self, Sum.inl.injEq, one0, Bool.false_eq_true]
  exact (l103 (d := d) hS hl 6 0 0 (by omega) (by omega) (by decide)).mpr ⟨rfl, rfl⟩
theorem k103 (hS : NOTE σ) {l : Int} (hl : InR l) : CalK (d + 4) 103 [.inr (.inr (.inl 0)), .inl l] σ K = K (.inl (orF (fit103 σ l) 0 6 0)) σ := CalK_eq (m103 hS hl)
def fit105 (σ : SG) (l : Int) (j : Nat) : Bool := allF (markC σ (j : Int) l) 0 (gg σ 11 3).toNat
theorem l105 (hS : MARK σ) {l : Int} (hl : InR l) : ∀ (n i : Nat) (a : Int), i + n = 6 → 0 ≤ a → a < 2 ^ i → Wp none (d + 3) 105 4 [.inr (.inr (.inl 0)), .inl l, .inl a, .inl (i : Int)] [] σ Q = Q (.inl (orF (fit105 σ l) i n a)) σ := by
  intro n
  induction n with
  | zero =>
    intro i a h h0 h1
    have e : i = 6 := by omega
    subst e
    have e0 : ((6 : Nat) : Int) = 6 := rfl
    simp (disch := first | with_reducible assumption | omega | exact ga_in _ _ _ | exact gg_in _ _ _ | (unfold InR; omega) | (unfold InL; omega) | (simp only [shC_0, shC_1, shC_2, shC_3, shC_4, shC_5, shC_6, shC_7, shC_8, shC_9, shC_10, shC_11, shC_12, shC_13, shC_14, shC_29, shC_58, shC_59, shC_60, shC_61, shC_62, shC_63, shC_64, shC_65, shC_66, shC_67, shC_68, shC_69, shC_70, shL_2, shL_3, shL_4, shL_5, shL_6, shL_8, shL_10, shL_12, shL_14, shL_29, shL_58, shL_60, shL_62, shL_63, shL_65, shL_66, shL_67, shL_68, shL_69, shL_70]; first | done | omega)) only [q105_4, q105_5, q105_7, q105_31, q105_32, e0, Int.le_refl, orF, pushR_I, pushR_L, pushR_R, pushR_V, InR_gg, InR_ga, InR_wr, InL_gl, InR_b, b01, b01_0, if_true, if_false, not_true_eq_false, not_false_eq_true, and_true, true_and, and_self, Sum.inl.injEq, one0, Bool.false_eq_true]
  | succ n ih =>
    intro i a h h0 h1
    have e : ¬ 6 ≤ (i : Int) := by omega
    have p7 : (2 : Int) ^ i ≤ 64 := by
      have : i = 0 ∨ i = 1 ∨ i = 2 ∨ i = 3 ∨ i = 4 ∨ i = 5 ∨ i = 6 := by omega
      rcases this with rfl | rfl | rfl | rfl | rfl | rfl | rfl <;> decide
    have p0 : (0 : Int) < 2 ^ i := Int.pow_pos (by omega)
    have q1 : (0 : Int) ≤ 1 * 2 ^ i := by omega
    have q2 : (1 : Int) * 2 ^ i < 2147483648 := by omega
    have q3 : (1 : Int) * 2 ^ i < 4294967296 := by omega
    have q4 : (1 : Int) * 2 ^ (i : Int).toNat < 4294967296 := by rw [Int.toNat_natCast]; exact q3
    have ha : a < 64 := by omega
    by_cases hc : fit105 σ l i = true
    · have ec : allF (markC σ (i : Int) l) 0 (gg σ 11 3).toNat = true := hc
      simp (disch := first | with_reducible assumption | omega | exact ga_in _ _ _ | exact gg_in _ _ _ | (unfold InR; omega) | (unfold InL; omega) | (simp only [shC_0, shC_1, shC_2, shC_3, shC_4, shC_5, shC_6, shC_7, shC_8, shC_9, shC_10, shC_11, shC_12, shC_13, shC_14, shC_29, shC_58, shC_59, shC_60, shC_61, shC_62, shC_63, shC_64, shC_65, shC_66, shC_67, shC_68, shC_69, shC_70, shL_2, shL_3, shL_4, shL_5, shL_6, shL_8, shL_10, shL_12, shL_14, shL_29, shL_58, shL_60, shL_62, shL_63, shL_65, shL_66, shL_67, shL_68, shL_69, shL_70]; first | done | omega)) only [q105_4, q105_5, q105_7, q105_10, q105_11, q105_12, q105_13, q105_16, q105_19, q105_20, q105_21, q105_22, q105_23, q105_24, q105_25, e, k106 hS, ec, Int.toNat_natCast, pushR_I, pushR_L, pushR_R, pushR_V, InR_gg, InR_ga, InR_wr, InL_gl, InR_b, b01, b01_0, if_true, if_false, not_true_eq_false, not_false_eq_true, and_true, true_and, and_self, Sum.inl.injEq, one0, Bool.false_eq_true]
      rw [q105_28]
      obtain ⟨z1, z2⟩ := orB_lt h0 h1
      refine (ih (i + 1) (orB a i) (by omega) z1 z2).trans ?_
      simp only [orF, hc, if_true]
    · have ec : allF (markC σ (i : Int) l) 0 (gg σ 11 3).toNat = false := by simpa [fit105] using hc
      simp (disch := first | with_reducible assumption | omega | exact ga_in _ _ _ | exact gg_in _ _ _ | (unfold InR; omega) | (unfold InL; omega) | (simp only [shC_0, shC_1, shC_2, shC_3, shC_4, shC_5, shC_6, shC_7, shC_8, shC_9, shC_10, shC_11, shC_12, shC_13, shC_14, shC_29, shC_58, shC_59, shC_60, shC_61, shC_62, shC_63, shC_64, shC_65, shC_66, shC_67, shC_68, shC_69, shC_70, shL_2, shL_3, shL_4, shL_5, shL_6, shL_8, shL_10, shL_12, shL_14, shL_29, shL_58, shL_60, shL_62, shL_63, shL_65, shL_66, shL_67, shL_68, shL_69, shL_70]; first | done | omega)) only [q105_4, q105_5, q105_7, q105_10, q105_11, q105_12, q105_13, q105_16, q105_19, q105_20, q105_21, q105_22, q105_23, q105_24, q105_25, e, k106 hS, ec, Bool.false_eq_true, pushR_I, pushR_L, pushR_R, pushR_V, InR_gg, InR_ga, InR_wr, InL_gl, InR_b, b01, b01_0, if_true, if_false, not_true_eq_false, not_false_eq_true, and_true, true_and, and_self, Sum.inl.injEq, one0, Bool.false_eq_true]
      rw [q105_28]
      refine (ih (i + 1) a (by omega) h0 (by rw [Int.pow_succ]; omega)).trans ?_
      simp only [orF, hc, Bool.false_eq_true, if_false]
theorem m105 (hS : MARK σ) {l : Int} (hl : InR l) : Cal (d + 4) 105 [.inr (.inr (.inl 0)), .inl l] σ (.inl (orF (fit105 σ l) 0 6 0)) σ := by
  refine Cal_in (ls := [.inr (.inr (.inl 0)), .inl l, aU, aU]) rfl mna_105 mml_105 mhl_105 rfl rfl ?_
  simp (disch := first | with_reducible assumption | omega | exact ga_in _ _ _ | exact gg_in _ _ _ | (unfold InR; omega) | (unfold InL; omega) | (simp only [shC_0, shC_1, shC_2, shC_3, shC_4, shC_5, shC_6, shC_7, shC_8, shC_9, shC_10, shC_11, shC_12, shC_13, shC_14, shC_29, shC_58, shC_59, shC_60, shC_61, shC_62, shC_63, shC_64, shC_65, shC_66, shC_67, shC_68, shC_69, shC_70, shL_2, shL_3, shL_4, shL_5, shL_6, shL_8, shL_10, shL_12, shL_14, shL_29, shL_58, shL_60, shL_62, shL_63, shL_65, shL_66, shL_67, shL_68, shL_69, shL_70]; first | done | omega)) only [q105_0, q105_1, q105_2, q105_3, pushR_I, pushR_L, pushR_R, pushR_V, InR_gg, InR_ga, InR_wr, InL_gl, InR_b, b01, b01_0, if_true, if_false, not_true_eq_false, not_false_eq_true, and_true, true_and, and_self, Sum.inl.injEq, one0, Bool.false_eq_true]
  exact (l105 (d := d) hS hl 6 0 0 (by omega) (by omega) (by decide)).mpr ⟨rfl, rfl⟩
theorem k105 (hS : MARK σ) {l : Int} (hl : InR l) : CalK (d + 4) 105 [.inr (.inr (.inl 0)), .inl l] σ K = K (.inl (orF (fit105 σ l) 0 6 0)) σ := CalK_eq (m105 hS hl)
theorem l93b {c N : Nat} (hc : shC c = 100) (hN : N ≤ shL c) {i : Nat} (hi : i < N) {v2 : AV} : ∀ (n j : Nat) (a : Int), j + n = N → Wp none (d + 1) 93 15 [.inr (.inr (.inl c)), .inl (N : Int), v2, .inl (i : Int), .inl a, .inl (j : Int)] [] σ Q = Wp none (d + 1) 93 44 [.inr (.inr (.inl c)), .inl (N : Int), v2, .inl (i : Int), .inl (a + sumF (fun x => if ga σ c (i : Int) = ga σ c (x : Int) then 1 else 0) j n), .inl (N : Int)] [] σ Q := by
  have g := shL_le c
  intro n
  induction n with
  | zero =>
    intro j a h
    have e : j = N := by omega
    subst e
    simp (disch := first | with_reducible assumption | omega | exact ga_in _ _ _ | exact gg_in _ _ _ | (unfold InR; omega) | (unfold InL; omega) | (simp only [shC_0, shC_1, shC_2, shC_3, shC_4, shC_5, shC_6, shC_7, shC_8, shC_9, shC_10, shC_11, shC_12, shC_13, shC_14, shC_29, shC_58, shC_59, shC_60, shC_61, shC_62, shC_63, shC_64, shC_65, shC_66, shC_67, shC_68, shC_69, shC_70, shL_2, shL_3, shL_4, shL_5, shL_6, shL_8, shL_10, shL_12, shL_14, shL_29, shL_58, shL_60, shL_62, shL_63, shL_65, shL_66, shL_67, shL_68, shL_69, shL_70]; first | done | omega)) only [q93_15, q93_17, q93_18, Int.le_refl, sumF, Int.add_zero, pushR_I, pushR_L, pushR_R, pushR_V, InR_gg, InR_ga, InR_wr, InL_gl, InR_b, b01, b01_0, if_true, if_false, not_true_eq_false, not_false_eq_true, and_true, true_and, and_self, Sum.inl.injEq, one0, Bool.false_eq_true]
  | succ n ih =>
    intro j a h
    have e : ¬ (N : Int) ≤ (j : Int) := by omega
    by_cases hq : ga σ c (i : Int) = ga σ c (j : Int)
    · simp (disch := first | with_reducible assumption | omega | exact ga_in _ _ _ | exact gg_in _ _ _ | (unfold InR; omega) | (unfold InL; omega) | (simp only [shC_0, shC_1, shC_2, shC_3, shC_4, shC_5, shC_6, shC_7, shC_8, shC_9, shC_10, shC_11, shC_12, shC_13, shC_14, shC_29, shC_58, shC_59, shC_60, shC_61, shC_62, shC_63, shC_64, shC_65, shC_66, shC_67, shC_68, shC_69, shC_70, shL_2, shL_3, shL_4, shL_5, shL_6, shL_8, shL_10, shL_12, shL_14, shL_29, shL_58, shL_60, shL_62, shL_63, shL_65, shL_66, shL_67, shL_68, shL_69, shL_70]; first | done | omega)) only [q93_15, q93_17, q93_18, q93_21, q93_22, q93_23, q93_26, q93_27, q93_29, q93_32, q93_35, q93_38, e, k89, hq, pushR_I, pushR_L, pushR_R, pushR_V, InR_gg, InR_ga, InR_wr, InL_gl, InR_b, b01, b01_0, if_true, if_false, not_true_eq_false, not_false_eq_true, and_true, true_and, and_self, Sum.inl.injEq, one0, Bool.false_eq_true]
      rw [q93_41]
      refine (ih (j + 1) _ (by omega)).trans ?_
      simp only [sumF, hq, if_true, Int.add_assoc]
    · simp (disch := first | with_reducible assumption | omega | exact ga_in _ _ _ | exact gg_in _ _ _ | (unfold InR; omega) | (unfold InL; omega) | (simp only [shC_0, shC_1, shC_2, shC_3, shC_4, shC_5, shC_6, shC_7, shC_8, shC_9, shC_10, shC_11, shC_12, shC_13, shC_14, shC_29, shC_58, shC_59, shC_60, shC_61, shC_62, shC_63, shC_64, shC_65, shC_66, shC_67, shC_68, shC_69, shC_70, shL_2, shL_3, shL_4, shL_5, shL_6, shL_8, shL_10, shL_12, shL_14, shL_29, shL_58, shL_60, shL_62, shL_63, shL_65, shL_66, shL_67, shL_68, shL_69, shL_70]; first | done | omega)) only [q93_15, q93_17, q93_18, q93_21, q93_22, q93_23, q93_26, q93_27, q93_29, q93_32, q93_35, q93_38, e, k89, hq, pushR_I, pushR_L, pushR_R, pushR_V, InR_gg, InR_ga, InR_wr, InL_gl, InR_b, b01, b01_0, if_true, if_false, not_true_eq_false, not_false_eq_true, and_true, true_and, and_self, Sum.inl.injEq, one0, Bool.false_eq_true]
      rw [q93_41]
      refine (ih (j + 1) _ (by omega)).trans ?_
      simp only [sumF, hq, if_false, Int.zero_add]
theorem l93 {c N : Nat} (hc : shC c = 100) (hN : N ≤ shL c) : ∀ (n i : Nat) (a : Int) (v4 v5 : AV), i + n = N → 0 ≤ a → a ≤ 1000 → Wp none (d + 1) 93 4 [.inr (.inr (.inl c)), .inl (N : Int), .inl a, .inl (i : Int), v4, v5] [] σ Q = Q (.inl (mxF (fun i => likeF (fun x => ga σ c (x : Int)) (ga σ c (i : Int)) N) i n a)) σ := by
  have g := shL_le c
  have bnd : ∀ (v : Int) (n j : Nat), 0 ≤ sumF (fun x => if v = ga σ c (x : Int) then (1 : Int) else 0) j n ∧ sumF (fun x => if v = ga σ c (x : Int) then (1 : Int) else 0) j n ≤ n := by
    intro v n
    induction n with
    | zero => intro j; simp [sumF]
    | succ n ih => intro j; have := ih (j + 1); simp only [sumF]; split <;> omega
  intro n
  induction n with
  | zero =>
    intro i a v4 v5 h h0 h1
    have e : i = N := by omega
    subst e
    simp (disch := first | with_reducible assumption | omega | exact ga_in _ _ _ | exact gg_in _ _ _ | (unfold InR; omega) | (unfold InL; omega) | (simp only [shC_0, shC_1, shC_2, shC_3, shC_4, shC_5, shC_6, shC_7, shC_8, shC_9, shC_10, shC_11, shC_12, shC_13, shC_14, shC_29, shC_58, shC_59, shC_60, shC_61, shC_62, shC_63, shC_64, shC_65, shC_66, shC_67, shC_68, shC_69, shC_70, shL_2, shL_3, shL_4, shL_5, shL_6, shL_8, shL_10, shL_12, shL_14, shL_29, shL_58, shL_60, shL_62, shL_63, shL_65, shL_66, shL_67, shL_68, shL_69, shL_70]; first | done | omega)) only [q93_4, q93_5, q93_6, q93_57, q93_58, Int.le_refl, mxF, pushR_I, pushR_L, pushR_R, pushR_V, InR_gg, InR_ga, InR_wr, InL_gl, InR_b, b01, b01_0, if_true, if_false, not_true_eq_false, not_false_eq_true, and_true, true_and, and_self, Sum.inl.injEq, one0, Bool.false_eq_true]
  | succ n ih =>
    intro i a v4 v5 h h0 h1
    have e : ¬ (N : Int) ≤ (i : Int) := by omega
    have hb := bnd (ga σ c (i : Int)) N 0
    simp (disch := first | with_reducible assumption | omega | exact ga_in _ _ _ | exact gg_in _ _ _ | (unfold InR; omega) | (unfold InL; omega) | (simp only [shC_0, shC_1, shC_2, shC_3, shC_4, shC_5, shC_6, shC_7, shC_8, shC_9, shC_10, shC_11, shC_12, shC_13, shC_14, shC_29, shC_58, shC_59, shC_60, shC_61, shC_62, shC_63, shC_64, shC_65, shC_66, shC_67, shC_68, shC_69, shC_70, shL_2, shL_3, shL_4, shL_5, shL_6, shL_8, shL_10, shL_12, shL_14, shL_29, shL_58, shL_60, shL_62, shL_63, shL_65, shL_66, shL_67, shL_68, shL_69, shL_70]; first | done | omega)) only [q93_4, q93_5, q93_6, q93_9, q93_10, q93_12, q93_13, e, pushR_I, pushR_L, pushR_R, pushR_V, InR_gg, InR_ga, InR_wr, InL_gl, InR_b, b01, b01_0, if_true, if_false, not_true_eq_false, not_false_eq_true, and_true, true_and, and_self, Sum.inl.injEq, one0, Bool.false_eq_true]
    refine (l93b (d := d) (Q := Q) (v2 := .inl a) hc hN (show i < N by omega) N 0 0 (by omega)).trans ?_
    simp (disch := first | with_reducible assumption | omega | exact ga_in _ _ _ | exact gg_in _ _ _ | (unfold InR; omega) | (unfold InL; omega) | (simp only [shC_0, shC_1, shC_2, shC_3, shC_4, shC_5, shC_6, shC_7, shC_8, shC_9, shC_10, shC_11, shC_12, shC_13, shC_14, shC_29, shC_58, shC_59, shC_60, shC_61, shC_62, shC_63, shC_64, shC_65, shC_66, shC_67, shC_68, shC_69, shC_70, shL_2, shL_3, shL_4, shL_5, shL_6, shL_8, shL_10, shL_12, shL_14, shL_29, shL_58, shL_60, shL_62, shL_63, shL_65, shL_66, shL_67, shL_68, shL_69, shL_70]; first | done | omega)) only [q93_44, q93_45, q93_47, q93_50, q93_51, k203, Int.zero_add, pushR_I, pushR_L, pushR_R, pushR_V, InR_gg, InR_ga, InR_wr, InL_gl, InR_b, b01, b01_0, if_true, if_false, not_true_eq_false, not_false_eq_true, and_true, true_and, and_self, Sum.inl.injEq, one0, Bool.false_eq_true]
    rw [q93_54]
    refine (ih (i + 1) (if a < sumF (fun x => if ga σ c (i : Int) = ga σ c (x : Int) then (1 : Int) else 0) 0 N then sumF (fun x => if ga σ c (i : Int) = ga σ c (x : Int) then (1 : Int) else 0) 0 N else a) _ _ (by omega) (by split <;> omega) (by split <;> omega)).trans ?_
    simp only [mxF, likeF]
    all_goals rfl
theorem m93 {c N : Nat} (hc : shC c = 100) (hN : N ≤ shL c) : Cal (d + 2) 93 [.inr (.inr (.inl c)), .inl (N : Int)] σ (.inl (mostF (fun x => ga σ c (x : Int)) N)) σ := by
  refine Cal_in (ls := [.inr (.inr (.inl c)), .inl (N : Int), aU, aU, aU, aU]) rfl mna_93 mml_93 mhl_93 rfl rfl ?_
  simp (disch := first | with_reducible assumption | omega | exact ga_in _ _ _ | exact gg_in _ _ _ | (unfold InR; omega) | (unfold InL; omega) | (simp only [shC_0, shC_1, shC_2, shC_3, shC_4, shC_5, shC_6, shC_7, shC_8, shC_9, shC_10, shC_11, shC_12, shC_13, shC_14, shC_29, shC_58, shC_59, shC_60, shC_61, shC_62, shC_63, shC_64, shC_65, shC_66, shC_67, shC_68, shC_69, shC_70, shL_2, shL_3, shL_4, shL_5, shL_6, shL_8, shL_10, shL_12, shL_14, shL_29, shL_58, shL_60, shL_62, shL_63, shL_65, shL_66, shL_67, shL_68, shL_69, shL_70]; first | done | omega)) only [q93_0, q93_1, q93_2, q93_3, pushR_I, pushR_L, pushR_R, pushR_V, InR_gg, InR_ga, InR_wr, InL_gl, InR_b, b01, b01_0, if_true, if_false, not_true_eq_false, not_false_eq_true, and_true, true_and, and_self, Sum.inl.injEq, one0, Bool.false_eq_true]
  exact (l93 (d := d) hc hN N 0 0 _ _ (by omega) (by omega) (by omega)).mpr ⟨rfl, rfl⟩
theorem k93 {c N : Nat} (hc : shC c = 100) (hN : N ≤ shL c) : CalK (d + 2) 93 [.inr (.inr (.inl c)), .inl (N : Int)] σ K = K (.inl (mostF (fun x => ga σ c (x : Int)) N)) σ := CalK_eq (m93 hc hN)
end NOW2
