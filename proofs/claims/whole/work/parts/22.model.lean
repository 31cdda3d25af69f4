-- the reference's row of numbers: its small methods
def isM (m : Nat) : Prop := m = 72 ∨ m = 73 ∨ m = 74
theorem isM_f {m : Nat} (h : isM m) : shC m = 100 ∧ shL m = 221 := by
  rcases h with rfl | rfl | rfl <;> decide +kernel
/-- what the reference's row keeps to -/
def MOK (σ : SG) (m : Nat) : Prop := (0 ≤ ga σ m 13 ∧ ga σ m 13 ≤ 7) ∧ (0 ≤ ga σ m 28 ∧ ga σ m 28 ≤ 5) ∧ (0 ≤ ga σ m 0 ∧ ga σ m 0 ≤ 100000) ∧
  (∀ l : Int, 0 ≤ l → l < ga σ m 13 → (0 ≤ ga σ m (14 + l) ∧ ga σ m (14 + l) ≤ 5) ∧ (1 ≤ ga σ m (21 + l) ∧ ga σ m (21 + l) ≤ 9) ∧ (0 ≤ ga σ m (6 + l) ∧ ga σ m (6 + l) ≤ 9)) ∧
  (∀ o : Int, 0 ≤ o → o < ga σ m 28 → (0 ≤ ga σ m (29 + o) ∧ ga σ m (29 + o) ≤ 5) ∧ (0 ≤ ga σ m (1 + o) ∧ ga σ m (1 + o) ≤ 99))
def ltM (σ : SG) (m : Nat) (l : Int) : Int := ltI (ga σ m (14 + l)) (ga σ m (21 + l)) (ga σ m (6 + l)) (ga σ m 0)
def tkM (σ : SG) (m : Nat) (o l : Int) : Int := tkI (ga σ m (29 + o)) (ltM σ m l) (ga σ m (1 + o))
def sayM (σ : SG) (m : Nat) (l o : Int) : SG := ua (ua σ m (1 + o) (heI (ga σ m (1 + o)) (tkM σ m o l))) m (6 + l) (kn1 (ga σ m (6 + l)))
def dayM (σ : SG) (m : Nat) : SG := ua (mR σ m 1 5 (fun j => coI (ga σ m (1 + (j : Int))) 1)) m 0 (ga σ m 0 + 1)
section MODEL
variable {d : Nat} {σ : SG} {K : AV → SG → Prop} {Q : AV → SG → Prop} {m : Nat}
theorem m118 : Cal (d + 1) 118 [.inr (.inr (.inl 71))] σ (.inl (-2)) (ua σ 77 0 (ga σ 77 0 + 1)) := by
  refine Cal_in (ls := [.inr (.inr (.inl 71))]) rfl mna_118 mml_118 mhl_118 rfl rfl ?_
  simp (disch := first | with_reducible assumption | omega | exact ga_in _ _ _ | exact gg_in _ _ _ | (unfold InR; omega) | (unfold InL; omega) | (simp only [shC_71, shC_72, shC_73, shC_74, shC_75, shC_76, shC_77, shC_78, shC_79, shL_72, shL_73, shL_74, shL_75, shL_76, shL_77, shL_78, shL_79]; first | done | omega)) only [q118_0, q118_1, q118_4, q118_5, q118_6, q118_7, q118_8, q118_9, q118_10, q118_12, shC_71, shR_71_5, shC_77, shL_77, pushR_I, pushR_L, pushR_R, pushR_V, InR_gg, InR_ga, InR_wr, InL_gl, InR_b, b01, b01_0, if_true, if_false, not_true_eq_false, not_false_eq_true, and_true, true_and, and_self, Sum.inl.injEq]
  all_goals (first | rfl | exact ⟨rfl, rfl⟩ | exact ⟨trivial, trivial⟩)
theorem k118 : CalK (d + 1) 118 [.inr (.inr (.inl 71))] σ K = K (.inl (-2)) (ua σ 77 0 (ga σ 77 0 + 1)) := CalK_eq m118
theorem m119 : Cal (d + 1) 119 [.inr (.inr (.inl 71))] σ (.inl (-3)) (ua σ 77 1 (ga σ 77 1 + 1)) := by
  refine Cal_in (ls := [.inr (.inr (.inl 71))]) rfl mna_119 mml_119 mhl_119 rfl rfl ?_
  simp (disch := first | with_reducible assumption | omega | exact ga_in _ _ _ | exact gg_in _ _ _ | (unfold InR; omega) | (unfold InL; omega) | (simp only [shC_71, shC_72, shC_73, shC_74, shC_75, shC_76, shC_77, shC_78, shC_79, shL_72, shL_73, shL_74, shL_75, shL_76, shL_77, shL_78, shL_79]; first | done | omega)) only [q119_0, q119_1, q119_4, q119_5, q119_6, q119_7, q119_8, q119_9, q119_10, q119_12, shC_71, shR_71_5, shC_77, shL_77, pushR_I, pushR_L, pushR_R, pushR_V, InR_gg, InR_ga, InR_wr, InL_gl, InR_b, b01, b01_0, if_true, if_false, not_true_eq_false, not_false_eq_true, and_true, true_and, and_self, Sum.inl.injEq]
  all_goals (first | rfl | exact ⟨rfl, rfl⟩ | exact ⟨trivial, trivial⟩)
theorem k119 : CalK (d + 1) 119 [.inr (.inr (.inl 71))] σ K = K (.inl (-3)) (ua σ 77 1 (ga σ 77 1 + 1)) := CalK_eq m119
theorem m120 : Cal (d + 1) 120 [.inr (.inr (.inl 71))] σ (.inl (-4)) (ua σ 77 2 (ga σ 77 2 + 1)) := by
  refine Cal_in (ls := [.inr (.inr (.inl 71))]) rfl mna_120 mml_120 mhl_120 rfl rfl ?_
  simp (disch := first | with_reducible assumption | omega | exact ga_in _ _ _ | exact gg_in _ _ _ | (unfold InR; omega) | (unfold InL; omega) | (simp only [shC_71, shC_72, shC_73, shC_74, shC_75, shC_76, shC_77, shC_78, shC_79, shL_72, shL_73, shL_74, shL_75, shL_76, shL_77, shL_78, shL_79]; first | done | omega)) only [q120_0, q120_1, q120_4, q120_5, q120_6, q120_7, q120_8, q120_9, q120_10, q120_12, shC_71, shR_71_5, shC_77, shL_77, pushR_I, pushR_L, pushR_R, pushR_V, InR_gg, InR_ga, InR_wr, InL_gl, InR_b, b01, b01_0, if_true, if_false, not_true_eq_false, not_false_eq_true, and_true, true_and, and_self, Sum.inl.injEq]
  all_goals (first | rfl | exact ⟨rfl, rfl⟩ | exact ⟨trivial, trivial⟩)
theorem k120 : CalK (d + 1) 120 [.inr (.inr (.inl 71))] σ K = K (.inl (-4)) (ua σ 77 2 (ga σ 77 2 + 1)) := CalK_eq m120
theorem m121 : Cal (d + 1) 121 [.inr (.inr (.inl 71))] σ (.inl (-10)) (ua σ 77 0 (ga σ 77 0 + 1)) := by
  refine Cal_in (ls := [.inr (.inr (.inl 71))]) rfl mna_121 mml_121 mhl_121 rfl rfl ?_
  simp (disch := first | with_reducible assumption | omega | exact ga_in _ _ _ | exact gg_in _ _ _ | (unfold InR; omega) | (unfold InL; omega) | (simp only [shC_71, shC_72, shC_73, shC_74, shC_75, shC_76, shC_77, shC_78, shC_79, shL_72, shL_73, shL_74, shL_75, shL_76, shL_77, shL_78, shL_79]; first | done | omega)) only [q121_0, q121_1, q121_4, q121_5, q121_6, q121_7, q121_8, q121_9, q121_10, q121_12, shC_71, shR_71_5, shC_77, shL_77, pushR_I, pushR_L, pushR_R, pushR_V, InR_gg, InR_ga, InR_wr, InL_gl, InR_b, b01, b01_0, if_true, if_false, not_true_eq_false, not_false_eq_true, and_true, true_and, and_self, Sum.inl.injEq]
  all_goals (first | rfl | exact ⟨rfl, rfl⟩ | exact ⟨trivial, trivial⟩)
theorem k121 : CalK (d + 1) 121 [.inr (.inr (.inl 71))] σ K = K (.inl (-10)) (ua σ 77 0 (ga σ 77 0 + 1)) := CalK_eq m121
theorem m122 (h13 : 0 ≤ ga σ 72 13 ∧ ga σ 72 13 ≤ 7) {l : Int} (hl : InR l) : Cal (d + 2) 122 [.inr (.inr (.inl 71)), .inl l] σ (.inl (if 0 ≤ l ∧ l < ga σ 72 13 then 1 else 0)) σ := by
  refine Cal_in (ls := [.inr (.inr (.inl 71)), .inl l]) rfl mna_122 mml_122 mhl_122 rfl rfl ?_
  have e : (0 ≤ l ∧ l ≤ ga σ 72 13 - 1) = (0 ≤ l ∧ l < ga σ 72 13) := propext (by omega)
  simp (disch := first | with_reducible assumption | omega | exact ga_in _ _ _ | exact gg_in _ _ _ | (unfold InR; omega) | (unfold InL; omega) | (simp only [shC_71, shC_72, shC_73, shC_74, shC_75, shC_76, shC_77, shC_78, shC_79, shL_72, shL_73, shL_74, shL_75, shL_76, shL_77, shL_78, shL_79]; first | done | omega)) only [q122_0, q122_1, q122_2, q122_3, q122_6, q122_8, q122_9, q122_10, q122_11, q122_14, shC_71, shR_71_0, shC_72, shL_72, k116, e, pushR_I, pushR_L, pushR_R, pushR_V, InR_gg, InR_ga, InR_wr, InL_gl, InR_b, b01, b01_0, if_true, if_false, not_true_eq_false, not_false_eq_true, and_true, true_and, and_self, Sum.inl.injEq]
theorem k122 (h13 : 0 ≤ ga σ 72 13 ∧ ga σ 72 13 ≤ 7) {l : Int} (hl : InR l) : CalK (d + 2) 122 [.inr (.inr (.inl 71)), .inl l] σ K = K (.inl (if 0 ≤ l ∧ l < ga σ 72 13 then 1 else 0)) σ := CalK_eq (m122 h13 hl)
theorem m123 (h13 : 0 ≤ ga σ 72 28 ∧ ga σ 72 28 ≤ 5) {l : Int} (hl : InR l) : Cal (d + 2) 123 [.inr (.inr (.inl 71)), .inl l] σ (.inl (if 0 ≤ l ∧ l < ga σ 72 28 then 1 else 0)) σ := by
  refine Cal_in (ls := [.inr (.inr (.inl 71)), .inl l]) rfl mna_123 mml_123 mhl_123 rfl rfl ?_
  have e : (0 ≤ l ∧ l ≤ ga σ 72 28 - 1) = (0 ≤ l ∧ l < ga σ 72 28) := propext (by omega)
  simp (disch := first | with_reducible assumption | omega | exact ga_in _ _ _ | exact gg_in _ _ _ | (unfold InR; omega) | (unfold InL; omega) | (simp only [shC_71, shC_72, shC_73, shC_74, shC_75, shC_76, shC_77, shC_78, shC_79, shL_72, shL_73, shL_74, shL_75, shL_76, shL_77, shL_78, shL_79]; first | done | omega)) only [q123_0, q123_1, q123_2, q123_3, q123_6, q123_8, q123_9, q123_10, q123_11, q123_14, shC_71, shR_71_0, shC_72, shL_72, k116, e, pushR_I, pushR_L, pushR_R, pushR_V, InR_gg, InR_ga, InR_wr, InL_gl, InR_b, b01, b01_0, if_true, if_false, not_true_eq_false, not_false_eq_true, and_true, true_and, and_self, Sum.inl.injEq]
theorem k123 (h13 : 0 ≤ ga σ 72 28 ∧ ga σ 72 28 ≤ 5) {l : Int} (hl : InR l) : CalK (d + 2) 123 [.inr (.inr (.inl 71)), .inl l] σ K = K (.inl (if 0 ≤ l ∧ l < ga σ 72 28 then 1 else 0)) σ := CalK_eq (m123 h13 hl)
theorem m129 (hm : isM m) (hO : MOK σ m) {l : Int} (hl : 0 ≤ l ∧ l < ga σ m 13) : Cal (d + 4) 129 [.inr (.inr (.inl m)), .inl l] σ (.inl (ltM σ m l)) σ := by
  obtain ⟨f1, f2⟩ := isM_f hm
  obtain ⟨o1, o2, o3, o4, o5⟩ := hO
  obtain ⟨b1, b2, b3⟩ := o4 l hl.1 hl.2
  refine Cal_in (ls := [.inr (.inr (.inl m)), .inl l]) rfl mna_129 mml_129 mhl_129 rfl rfl ?_
  simp (disch := first | with_reducible assumption | omega | exact ga_in _ _ _ | exact gg_in _ _ _ | (unfold InR; omega) | (unfold InL; omega)) only [q129_0, q129_1, q129_3, q129_4, q129_5, q129_6, q129_7, q129_9, q129_10, q129_11, q129_12, q129_13, q129_15, q129_16, q129_17, q129_18, q129_19, q129_20, q129_21, q129_24, k126, pushR_I, pushR_L, pushR_R, pushR_V, InR_gg, InR_ga, InR_wr, InL_gl, InR_b, b01, b01_0, if_true, if_false, not_true_eq_false, not_false_eq_true, and_true, true_and, and_self, Sum.inl.injEq]
  all_goals (first | rfl | exact ⟨rfl, rfl⟩ | exact ⟨trivial, trivial⟩)
theorem k129 (hm : isM m) (hO : MOK σ m) {l : Int} (hl : 0 ≤ l ∧ l < ga σ m 13) : CalK (d + 4) 129 [.inr (.inr (.inl m)), .inl l] σ K = K (.inl (ltM σ m l)) σ := CalK_eq (m129 hm hO hl)
theorem m130 (hm : isM m) (hO : MOK σ m) {l o : Int} (hl : 0 ≤ l ∧ l < ga σ m 13) (ho : 0 ≤ o ∧ o < ga σ m 28) : Cal (d + 5) 130 [.inr (.inr (.inl m)), .inl o, .inl l] σ (.inl (tkM σ m o l)) σ := by
  obtain ⟨f1, f2⟩ := isM_f hm
  have hO' := hO
  obtain ⟨o1, o2, o3, o4, o5⟩ := hO
  obtain ⟨b1, b2, b3⟩ := o4 l hl.1 hl.2
  obtain ⟨b4, b5⟩ := o5 o ho.1 ho.2
  have b6 : 0 ≤ ltM σ m l ∧ ltM σ m l ≤ 4008 := ltI_b (by omega) (by omega)
  refine Cal_in (ls := [.inr (.inr (.inl m)), .inl o, .inl l]) rfl mna_130 mml_130 mhl_130 rfl rfl ?_
  simp (disch := first | with_reducible assumption | omega | exact ga_in _ _ _ | exact gg_in _ _ _ | (unfold InR; omega) | (unfold InL; omega)) only [q130_0, q130_1, q130_3, q130_4, q130_5, q130_6, q130_7, q130_8, q130_11, q130_12, q130_13, q130_14, q130_15, q130_16, q130_19, k129 hm hO' hl, k128, pushR_I, pushR_L, pushR_R, pushR_V, InR_gg, InR_ga, InR_wr, InL_gl, InR_b, b01, b01_0, if_true, if_false, not_true_eq_false, not_false_eq_true, and_true, true_and, and_self, Sum.inl.injEq]
  all_goals (first | rfl | exact ⟨rfl, rfl⟩ | exact ⟨trivial, trivial⟩)
theorem k130 (hm : isM m) (hO : MOK σ m) {l o : Int} (hl : 0 ≤ l ∧ l < ga σ m 13) (ho : 0 ≤ o ∧ o < ga σ m 28) : CalK (d + 5) 130 [.inr (.inr (.inl m)), .inl o, .inl l] σ K = K (.inl (tkM σ m o l)) σ := CalK_eq (m130 hm hO hl ho)
theorem m131 (hm : isM m) {o x : Int} (ho : 0 ≤ o ∧ o ≤ 4) (hh : 0 ≤ ga σ m (1 + o) ∧ ga σ m (1 + o) ≤ 99) (hx : 0 ≤ x ∧ x ≤ 10000) : Cal (d + 1) 131 [.inr (.inr (.inl m)), .inl o, .inl x] σ aU (ua σ m (1 + o) (heI (ga σ m (1 + o)) x)) := by
  obtain ⟨f1, f2⟩ := isM_f hm
  refine Cal_in (ls := [.inr (.inr (.inl m)), .inl o, .inl x]) rfl mna_131 mml_131 mhl_131 rfl rfl ?_
  by_cases c : 99 ≤ ga σ m (1 + o) + x
  · have e : heI (ga σ m (1 + o)) x = 99 := by unfold heI; rw [if_neg (by omega)]
    rw [e]
    simp (disch := first | with_reducible assumption | omega | exact ga_in _ _ _ | exact gg_in _ _ _ | (unfold InR; omega) | (unfold InL; omega)) only [q131_0, q131_1, q131_2, q131_3, q131_4, q131_5, q131_6, q131_7, q131_8, q131_9, q131_10, q131_11, q131_13, q131_16, q131_17, q131_18, q131_19, q131_20, q131_21, q131_22, q131_23, q131_26, q131_28, q131_29, c, pushR_I, pushR_L, pushR_R, pushR_V, InR_gg, InR_ga, InR_wr, InL_gl, InR_b, b01, b01_0, if_true, if_false, not_true_eq_false, not_false_eq_true, and_true, true_and, and_self, Sum.inl.injEq]
  · have e : heI (ga σ m (1 + o)) x = ga σ m (1 + o) + x := by unfold heI; rw [if_pos (by omega)]
    rw [e]
    simp (disch := first | with_reducible assumption | omega | exact ga_in _ _ _ | exact gg_in _ _ _ | (unfold InR; omega) | (unfold InL; omega)) only [q131_0, q131_1, q131_2, q131_3, q131_4, q131_5, q131_6, q131_7, q131_8, q131_9, q131_10, q131_11, q131_13, q131_16, q131_17, q131_18, q131_19, q131_20, q131_21, q131_22, q131_23, q131_26, q131_28, q131_29, c, pushR_I, pushR_L, pushR_R, pushR_V, InR_gg, InR_ga, InR_wr, InL_gl, InR_b, b01, b01_0, if_true, if_false, not_true_eq_false, not_false_eq_true, and_true, true_and, and_self, Sum.inl.injEq]
theorem k131 (hm : isM m) {o x : Int} (ho : 0 ≤ o ∧ o ≤ 4) (hh : 0 ≤ ga σ m (1 + o) ∧ ga σ m (1 + o) ≤ 99) (hx : 0 ≤ x ∧ x ≤ 10000) : CalK (d + 1) 131 [.inr (.inr (.inl m)), .inl o, .inl x] σ K = K aU (ua σ m (1 + o) (heI (ga σ m (1 + o)) x)) := CalK_eq (m131 hm ho hh hx)
theorem tkM_b (hO : MOK σ m) {l o : Int} (hl : 0 ≤ l ∧ l < ga σ m 13) (ho : 0 ≤ o ∧ o < ga σ m 28) : 0 ≤ tkM σ m o l ∧ tkM σ m o l ≤ 4013 := by
  obtain ⟨o1, o2, o3, o4, o5⟩ := hO
  obtain ⟨b1, b2, b3⟩ := o4 l hl.1 hl.2
  obtain ⟨b4, b5⟩ := o5 o ho.1 ho.2
  exact tkI_b (ltI_b (by omega) (by omega)) b5
theorem m132 (hm : isM m) (hO : MOK σ m) {l o : Int} (hl : 0 ≤ l ∧ l < ga σ m 13) (ho : 0 ≤ o ∧ o < ga σ m 28) : Cal (d + 6) 132 [.inr (.inr (.inl m)), .inl l, .inl o] σ aU (sayM σ m l o) := by
  obtain ⟨f1, f2⟩ := isM_f hm
  have hb := tkM_b hO hl ho
  have hO' := hO
  obtain ⟨o1, o2, o3, o4, o5⟩ := hO
  obtain ⟨b1, b2, b3⟩ := o4 l hl.1 hl.2
  obtain ⟨b4, b5⟩ := o5 o ho.1 ho.2
  have e : ga (ua σ m (1 + o) (heI (ga σ m (1 + o)) (tkM σ m o l))) m (6 + l) = ga σ m (6 + l) := by
    rw [ga_ua _ _ _ _ _ _ (by omega) (by omega), if_pos rfl, if_neg (by omega)]
  refine Cal_in (ls := [.inr (.inr (.inl m)), .inl l, .inl o]) rfl mna_132 mml_132 mhl_132 rfl rfl ?_
  unfold sayM
  by_cases c : 9 ≤ ga σ m (6 + l)
  · have e2 : kn1 (ga σ m (6 + l)) = 9 := by unfold kn1; rw [if_neg (by omega)]
    rw [e2]
    simp (disch := first | with_reducible assumption | omega | exact ga_in _ _ _ | exact gg_in _ _ _ | (unfold InR; omega) | (unfold InL; omega)) only [q132_0, q132_1, q132_2, q132_3, q132_4, q132_5, q132_8, q132_11, q132_12, q132_14, q132_15, q132_16, q132_17, q132_19, q132_20, q132_21, q132_22, q132_24, q132_27, q132_28, q132_30, q132_31, q132_32, q132_33, q132_34, q132_35, q132_38, q132_40, q132_41, k130 hm hO' hl ho, k131, e, c, pushR_I, pushR_L, pushR_R, pushR_V, InR_gg, InR_ga, InR_wr, InL_gl, InR_b, b01, b01_0, if_true, if_false, not_true_eq_false, not_false_eq_true, and_true, true_and, and_self, Sum.inl.injEq]
  · have e2 : kn1 (ga σ m (6 + l)) = ga σ m (6 + l) + 1 := by unfold kn1; rw [if_pos (by omega)]
    rw [e2]
    simp (disch := first | with_reducible assumption | omega | exact ga_in _ _ _ | exact gg_in _ _ _ | (unfold InR; omega) | (unfold InL; omega)) only [q132_0, q132_1, q132_2, q132_3, q132_4, q132_5, q132_8, q132_11, q132_12, q132_14, q132_15, q132_16, q132_17, q132_19, q132_20, q132_21, q132_22, q132_24, q132_27, q132_28, q132_30, q132_31, q132_32, q132_33, q132_34, q132_35, q132_38, q132_40, q132_41, k130 hm hO' hl ho, k131, e, c, pushR_I, pushR_L, pushR_R, pushR_V, InR_gg, InR_ga, InR_wr, InL_gl, InR_b, b01, b01_0, if_true, if_false, not_true_eq_false, not_false_eq_true, and_true, true_and, and_self, Sum.inl.injEq]
theorem k132 (hm : isM m) (hO : MOK σ m) {l o : Int} (hl : 0 ≤ l ∧ l < ga σ m 13) (ho : 0 ≤ o ∧ o < ga σ m 28) : CalK (d + 6) 132 [.inr (.inr (.inl m)), .inl l, .inl o] σ K = K aU (sayM σ m l o) := CalK_eq (m132 hm hO hl ho)
theorem l133 (hm : isM m) : ∀ (n i : Nat), i + n = 5 → Wp none d 133 2 [.inr (.inr (.inl m)), .inl (i : Int)] [] (mR σ m 1 i (fun j => coI (ga σ m (1 + (j : Int))) 1)) Q = Wp none d 133 40 [.inr (.inr (.inl m)), .inl 5] [] (mR σ m 1 5 (fun j => coI (ga σ m (1 + (j : Int))) 1)) Q := by
  obtain ⟨f1, f2⟩ := isM_f hm
  intro n
  induction n with
  | zero =>
    intro i h
    have e : i = 5 := by omega
    subst e
    have e0 : ((5 : Nat) : Int) = 5 := rfl
    simp (disch := first | with_reducible assumption | omega | exact ga_in _ _ _ | exact gg_in _ _ _ | (unfold InR; omega) | (unfold InL; omega)) only [q133_2, q133_3, q133_4, e0, Int.le_refl, pushR_I, pushR_L, pushR_R, pushR_V, InR_gg, InR_ga, InR_wr, InL_gl, InR_b, b01, b01_0, if_true, if_false, not_true_eq_false, not_false_eq_true, and_true, true_and, and_self, Sum.inl.injEq]
  | succ n ih =>
    intro i h
    have e : ¬ 5 ≤ (i : Int) := by omega
    have er : ga (mR σ m 1 i (fun j => coI (ga σ m (1 + (j : Int))) 1)) m (1 + (i : Int)) = ga σ m (1 + (i : Int)) := by
      rw [ga_mR _ _ _ _ _ _ (by omega), if_pos rfl, if_neg (by omega)]
    simp (disch := first | with_reducible assumption | omega | exact ga_in _ _ _ | exact gg_in _ _ _ | (unfold InR; omega) | (unfold InL; omega)) only [q133_2, q133_3, q133_4, q133_7, q133_8, q133_9, q133_10, q133_11, q133_12, q133_13, q133_14, q133_15, q133_16, q133_18, q133_21, q133_22, q133_23, q133_24, q133_25, q133_26, q133_28, q133_29, q133_32, e, er, wp_if, pushR_I, pushR_L, pushR_R, pushR_V, InR_gg, InR_ga, InR_wr, InL_gl, InR_b, b01, b01_0, if_true, if_false, not_true_eq_false, not_false_eq_true, and_true, true_and, and_self, Sum.inl.injEq]
    simp (disch := first | with_reducible assumption | omega | exact ga_in _ _ _ | exact gg_in _ _ _ | (unfold InR; omega) | (unfold InL; omega)) only [q133_33, q133_34, pushR_I, pushR_L, pushR_R, pushR_V, InR_gg, InR_ga, InR_wr, InL_gl, InR_b, b01, b01_0, if_true, if_false, not_true_eq_false, not_false_eq_true, and_true, true_and, and_self, Sum.inl.injEq]
    rw [q133_37, mR_step (b := 1) (i := i) (g := fun j => coI (ga σ m (1 + (j : Int))) 1) σ (by omega) (by unfold coI; split <;> split <;> omega)]
    exact ih (i + 1) (by omega)
theorem m133 (hm : isM m) : Cal (d + 1) 133 [.inr (.inr (.inl m))] σ aU (dayM σ m) := by
  obtain ⟨f1, f2⟩ := isM_f hm
  have eg : ga (mR σ m 1 5 (fun j => coI (ga σ m (1 + (j : Int))) 1)) m 0 = ga σ m 0 := by rw [ga_mR _ _ _ _ _ _ (by omega), if_pos rfl, if_neg (by omega)]
  refine Cal_in (ls := [.inr (.inr (.inl m)), aU]) rfl mna_133 mml_133 mhl_133 rfl rfl ?_
  simp (disch := first | with_reducible assumption | omega | exact ga_in _ _ _ | exact gg_in _ _ _ | (unfold InR; omega) | (unfold InL; omega)) only [q133_0, q133_1, pushR_I, pushR_L, pushR_R, pushR_V, InR_gg, InR_ga, InR_wr, InL_gl, InR_b, b01, b01_0, if_true, if_false, not_true_eq_false, not_false_eq_true, and_true, true_and, and_self, Sum.inl.injEq]
  have h := l133 (d := d) (σ := σ) (Q := fun r1 σ1 => r1 = aU ∧ σ1 = dayM σ m) hm 5 0 (by omega)
  rw [mR_0] at h
  refine h.mpr ?_
  simp (disch := first | with_reducible assumption | omega | exact ga_in _ _ _ | exact gg_in _ _ _ | (unfold InR; omega) | (unfold InL; omega)) only [q133_40, q133_41, q133_42, q133_43, q133_44, q133_45, q133_46, q133_47, eg, pushR_I, pushR_L, pushR_R, pushR_V, InR_gg, InR_ga, InR_wr, InL_gl, InR_b, b01, b01_0, if_true, if_false, not_true_eq_false, not_false_eq_true, and_true, true_and, and_self, Sum.inl.injEq]
  all_goals (first | rfl | exact ⟨rfl, rfl⟩ | exact ⟨trivial, trivial⟩)
theorem k133 (hm : isM m) : CalK (d + 1) 133 [.inr (.inr (.inl m))] σ K = K aU (dayM σ m) := CalK_eq (m133 hm)
theorem l134 (hm : isM m) (h5 : ga σ m 28 ≤ 5) : ∀ (n i : Nat) (acc : Int), (i : Int) + n = ga σ m 28 → Wp none d 134 4 [.inr (.inr (.inl m)), .inl acc, .inl (i : Int)] [] σ Q = Wp none d 134 36 [.inr (.inr (.inl m)), .inl (acc + sumF (hotF σ m 1) i n), .inl (ga σ m 28)] [] σ Q := by
  obtain ⟨f1, f2⟩ := isM_f hm
  intro n
  induction n with
  | zero =>
    intro i acc h
    have e : ga σ m 28 = (i : Int) := by omega
    simp (disch := first | with_reducible assumption | omega | exact ga_in _ _ _ | exact gg_in _ _ _ | (unfold InR; omega) | (unfold InL; omega)) only [q134_4, q134_5, q134_6, q134_8, q134_9, e, Int.le_refl, sumF, Int.add_zero, pushR_I, pushR_L, pushR_R, pushR_V, InR_gg, InR_ga, InR_wr, InL_gl, InR_b, b01, b01_0, if_true, if_false, not_true_eq_false, not_false_eq_true, and_true, true_and, and_self, Sum.inl.injEq]
  | succ n ih =>
    intro i acc h
    have e : ¬ ga σ m 28 ≤ (i : Int) := by omega
    simp (disch := first | with_reducible assumption | omega | exact ga_in _ _ _ | exact gg_in _ _ _ | (unfold InR; omega) | (unfold InL; omega)) only [q134_4, q134_5, q134_6, q134_8, q134_9, q134_12, q134_13, q134_14, q134_15, q134_16, q134_17, q134_18, q134_20, q134_23, q134_24, q134_27, e, wp_if, pushR_I, pushR_L, pushR_R, pushR_V, InR_gg, InR_ga, InR_wr, InL_gl, InR_b, b01, b01_0, if_true, if_false, not_true_eq_false, not_false_eq_true, and_true, true_and, and_self, Sum.inl.injEq]
    simp (disch := first | with_reducible assumption | omega | exact ga_in _ _ _ | exact gg_in _ _ _ | (unfold InR; omega) | (unfold InL; omega)) only [q134_28, q134_29, q134_30, pushR_I, pushR_L, pushR_R, pushR_V, InR_gg, InR_ga, InR_wr, InL_gl, InR_b, b01, b01_0, if_true, if_false, not_true_eq_false, not_false_eq_true, and_true, true_and, and_self, Sum.inl.injEq]
    rw [q134_33]
    refine (ih (i + 1) _ (by omega)).trans ?_
    have e2 : (if ga σ m (1 + (i : Int)) < 20 then (0 : Int) else 1) = hotF σ m 1 i := by unfold hotF; split <;> split <;> omega
    simp only [sumF, e2, Int.add_assoc]
theorem m134 (hm : isM m) (h5 : 0 ≤ ga σ m 28 ∧ ga σ m 28 ≤ 5) : Cal (d + 1) 134 [.inr (.inr (.inl m))] σ (.inl (sumF (hotF σ m 1) 0 (ga σ m 28).toNat)) σ := by
  refine Cal_in (ls := [.inr (.inr (.inl m)), aU, aU]) rfl mna_134 mml_134 mhl_134 rfl rfl ?_
  simp (disch := first | with_reducible assumption | omega | exact ga_in _ _ _ | exact gg_in _ _ _ | (unfold InR; omega) | (unfold InL; omega)) only [q134_0, q134_1, q134_2, q134_3, pushR_I, pushR_L, pushR_R, pushR_V, InR_gg, InR_ga, InR_wr, InL_gl, InR_b, b01, b01_0, if_true, if_false, not_true_eq_false, not_false_eq_true, and_true, true_and, and_self, Sum.inl.injEq]
  refine (l134 (d := d) hm h5.2 (ga σ m 28).toNat 0 0 (by omega)).mpr ?_
  simp (disch := first | with_reducible assumption | omega | exact ga_in _ _ _ | exact gg_in _ _ _ | (unfold InR; omega) | (unfold InL; omega)) only [q134_36, q134_37, Int.zero_add, pushR_I, pushR_L, pushR_R, pushR_V, InR_gg, InR_ga, InR_wr, InL_gl, InR_b, b01, b01_0, if_true, if_false, not_true_eq_false, not_false_eq_true, and_true, true_and, and_self, Sum.inl.injEq]
  all_goals (first | rfl | exact ⟨rfl, rfl⟩ | exact ⟨trivial, trivial⟩)
theorem k134 (hm : isM m) (h5 : 0 ≤ ga σ m 28 ∧ ga σ m 28 ≤ 5) : CalK (d + 1) 134 [.inr (.inr (.inl m))] σ K = K (.inl (sumF (hotF σ m 1) 0 (ga σ m 28).toNat)) σ := CalK_eq (m134 hm h5)
theorem l135 (hm : isM m) (h5 : ga σ m 28 ≤ 5) : ∀ (n i : Nat) (acc : Int), (i : Int) + n = ga σ m 28 → Wp none d 135 4 [.inr (.inr (.inl m)), .inl acc, .inl (i : Int)] [] σ Q = Wp none d 135 26 [.inr (.inr (.inl m)), .inl (acc + sumF (fun j => ga σ m (1 + (j : Int))) i n), .inl (ga σ m 28)] [] σ Q := by
  obtain ⟨f1, f2⟩ := isM_f hm
  intro n
  induction n with
  | zero =>
    intro i acc h
    have e : ga σ m 28 = (i : Int) := by omega
    simp (disch := first | with_reducible assumption | omega | exact ga_in _ _ _ | exact gg_in _ _ _ | (unfold InR; omega) | (unfold InL; omega)) only [q135_4, q135_5, q135_6, q135_8, q135_9, e, Int.le_refl, sumF, Int.add_zero, pushR_I, pushR_L, pushR_R, pushR_V, InR_gg, InR_ga, InR_wr, InL_gl, InR_b, b01, b01_0, if_true, if_false, not_true_eq_false, not_false_eq_true, and_true, true_and, and_self, Sum.inl.injEq]
  | succ n ih =>
    intro i acc h
    have e : ¬ ga σ m 28 ≤ (i : Int) := by omega
    simp (disch := first | with_reducible assumption | omega | exact ga_in _ _ _ | exact gg_in _ _ _ | (unfold InR; omega) | (unfold InL; omega)) only [q135_4, q135_5, q135_6, q135_8, q135_9, q135_12, q135_13, q135_14, q135_15, q135_16, q135_17, q135_18, q135_19, q135_20, e, pushR_I, pushR_L, pushR_R, pushR_V, InR_gg, InR_ga, InR_wr, InL_gl, InR_b, b01, b01_0, if_true, if_false, not_true_eq_false, not_false_eq_true, and_true, true_and, and_self, Sum.inl.injEq]
    rw [q135_23]
    refine (ih (i + 1) _ (by omega)).trans ?_
    simp only [sumF, Int.add_assoc]
theorem m135 (hm : isM m) (h5 : 0 ≤ ga σ m 28 ∧ ga σ m 28 ≤ 5) : Cal (d + 1) 135 [.inr (.inr (.inl m))] σ (.inl (sumF (fun j => ga σ m (1 + (j : Int))) 0 (ga σ m 28).toNat)) σ := by
  refine Cal_in (ls := [.inr (.inr (.inl m)), aU, aU]) rfl mna_135 mml_135 mhl_135 rfl rfl ?_
  simp (disch := first | with_reducible assumption | omega | exact ga_in _ _ _ | exact gg_in _ _ _ | (unfold InR; omega) | (unfold InL; omega)) only [q135_0, q135_1, q135_2, q135_3, pushR_I, pushR_L, pushR_R, pushR_V, InR_gg, InR_ga, InR_wr, InL_gl, InR_b, b01, b01_0, if_true, if_false, not_true_eq_false, not_false_eq_true, and_true, true_and, and_self, Sum.inl.injEq]
  refine (l135 (d := d) hm h5.2 (ga σ m 28).toNat 0 0 (by omega)).mpr ?_
  simp (disch := first | with_reducible assumption | omega | exact ga_in _ _ _ | exact gg_in _ _ _ | (unfold InR; omega) | (unfold InL; omega)) only [q135_26, q135_27, Int.zero_add, pushR_I, pushR_L, pushR_R, pushR_V, InR_gg, InR_ga, InR_wr, InL_gl, InR_b, b01, b01_0, if_true, if_false, not_true_eq_false, not_false_eq_true, and_true, true_and, and_self, Sum.inl.injEq]
  all_goals (first | rfl | exact ⟨rfl, rfl⟩ | exact ⟨trivial, trivial⟩)
theorem k135 (hm : isM m) (h5 : 0 ≤ ga σ m 28 ∧ ga σ m 28 ≤ 5) : CalK (d + 1) 135 [.inr (.inr (.inl m))] σ K = K (.inl (sumF (fun j => ga σ m (1 + (j : Int))) 0 (ga σ m 28).toNat)) σ := CalK_eq (m135 hm h5)
/-- bring: n cells of f from i on come to t from j on; the same row only if the two don't meet -/
theorem l136 {f t i j N : Nat} (hf : shC f = 100) (ht : shC t = 100) (h1 : i + N ≤ shL f) (h2 : j + N ≤ shL t) (hne : ¬ f = t ∨ i + N ≤ j ∨ j + N ≤ i) : ∀ (n k : Nat), k + n = N → Wp none d 136 3 [.inr (.inr (.inl f)), .inl (i : Int), .inr (.inr (.inl t)), .inl (j : Int), .inl (N : Int), .inl (k : Int)] [] (mR σ t j k (fun x => ga σ f ((i : Int) + (x : Int)))) Q = Wp none d 136 28 [.inr (.inr (.inl f)), .inl (i : Int), .inr (.inr (.inl t)), .inl (j : Int), .inl (N : Int), .inl (N : Int)] [] (mR σ t j N (fun x => ga σ f ((i : Int) + (x : Int)))) Q := by
  have g1 := shL_le f
  have g2 := shL_le t
  intro n
  induction n with
  | zero =>
    intro k h
    have e : k = N := by omega
    subst e
    simp (disch := first | with_reducible assumption | omega | exact ga_in _ _ _ | exact gg_in _ _ _ | (unfold InR; omega) | (unfold InL; omega)) only [q136_3, q136_5, q136_7, Int.le_refl, pushR_I, pushR_L, pushR_R, pushR_V, InR_gg, InR_ga, InR_wr, InL_gl, InR_b, b01, b01_0, if_true, if_false, not_true_eq_false, not_false_eq_true, and_true, true_and, and_self, Sum.inl.injEq]
  | succ n ih =>
    intro k h
    have e : ¬ (N : Int) ≤ (k : Int) := by omega
    have er : ga (mR σ t j k (fun x => ga σ f ((i : Int) + (x : Int)))) f ((i : Int) + (k : Int)) = ga σ f ((i : Int) + (k : Int)) := by
      rw [ga_mR _ _ _ _ _ _ (by omega)]
      split
      · rw [if_neg (by omega)]
      · rfl
    simp (disch := first | with_reducible assumption | omega | exact ga_in _ _ _ | exact gg_in _ _ _ | (unfold InR; omega) | (unfold InL; omega)) only [q136_3, q136_5, q136_7, q136_10, q136_11, q136_12, q136_14, q136_15, q136_16, q136_17, q136_19, q136_20, q136_21, q136_22, e, er, pushR_I, pushR_L, pushR_R, pushR_V, InR_gg, InR_ga, InR_wr, InL_gl, InR_b, b01, b01_0, if_true, if_false, not_true_eq_false, not_false_eq_true, and_true, true_and, and_self, Sum.inl.injEq]
    rw [q136_25, mR_step (b := j) (i := k) (g := fun x => ga σ f ((i : Int) + (x : Int))) σ rfl rfl]
    exact ih (k + 1) (by omega)
theorem m136 {f t i j N : Nat} (hf : shC f = 100) (ht : shC t = 100) (h1 : i + N ≤ shL f) (h2 : j + N ≤ shL t) (hne : ¬ f = t ∨ i + N ≤ j ∨ j + N ≤ i) : Cal (d + 1) 136 [.inr (.inr (.inl f)), .inl (i : Int), .inr (.inr (.inl t)), .inl (j : Int), .inl (N : Int)] σ aU (mR σ t j N (fun x => ga σ f ((i : Int) + (x : Int)))) := by
  refine Cal_in (ls := [.inr (.inr (.inl f)), .inl (i : Int), .inr (.inr (.inl t)), .inl (j : Int), .inl (N : Int), aU]) rfl mna_136 mml_136 mhl_136 rfl rfl ?_
  simp (disch := first | with_reducible assumption | omega | exact ga_in _ _ _ | exact gg_in _ _ _ | (unfold InR; omega) | (unfold InL; omega)) only [q136_0, q136_1, pushR_I, pushR_L, pushR_R, pushR_V, InR_gg, InR_ga, InR_wr, InL_gl, InR_b, b01, b01_0, if_true, if_false, not_true_eq_false, not_false_eq_true, and_true, true_and, and_self, Sum.inl.injEq]
  have h := l136 (d := d) (σ := σ) (Q := fun r1 σ1 => r1 = aU ∧ σ1 = mR σ t j N (fun x => ga σ f ((i : Int) + (x : Int)))) hf ht h1 h2 hne N 0 (by omega)
  rw [mR_0] at h
  refine h.mpr ?_
  simp (disch := first | with_reducible assumption | omega | exact ga_in _ _ _ | exact gg_in _ _ _ | (unfold InR; omega) | (unfold InL; omega)) only [q136_28, pushR_I, pushR_L, pushR_R, pushR_V, InR_gg, InR_ga, InR_wr, InL_gl, InR_b, b01, b01_0, if_true, if_false, not_true_eq_false, not_false_eq_true, and_true, true_and, and_self, Sum.inl.injEq]
  all_goals (first | rfl | exact ⟨rfl, rfl⟩ | exact ⟨trivial, trivial⟩)
theorem k136 {f t i j N : Nat} (hf : shC f = 100) (ht : shC t = 100) (h1 : i + N ≤ shL f) (h2 : j + N ≤ shL t) (hne : ¬ f = t ∨ i + N ≤ j ∨ j + N ≤ i) : CalK (d + 1) 136 [.inr (.inr (.inl f)), .inl (i : Int), .inr (.inr (.inl t)), .inl (j : Int), .inl (N : Int)] σ K = K aU (mR σ t j N (fun x => ga σ f ((i : Int) + (x : Int)))) := CalK_eq (m136 hf ht h1 h2 hne)
end MODEL
