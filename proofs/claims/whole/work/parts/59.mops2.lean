-- the reference: says and asked, seen and noted
section MOPS2
variable {d : Nat} {σ : SG} {S : Nat → Int → Int} {K : AV → SG → Prop} {Q : AV → SG → Prop} {g : Int → Int} {m : Nat}
theorem o159 (h : MR σ S) (hS : SOK S) {l o : Int} (hl : InR l) (ho : InR o) : CalE (d + 20) 159 [.inr (.inr (.inl 71)), .inl l, .inl o] σ (OPM σ (fSays S l o)) := by
  have hO := MOKn h.1 (by omega) hS.1
  have e13 : ga σ 72 13 = S 0 13 := h.1 13 (by omega) (by omega)
  have e28 : ga σ 72 28 = S 0 28 := h.1 28 (by omega) (by omega)
  have e116 : ga σ 72 116 = S 0 116 := h.1 116 (by omega) (by omega)
  have g9 := hS.1.2.2.2.2.2.2.2.2.1
  have g13 := hS.1.1
  have g28 := hS.1.2.1
  have c221 : ((221 : Nat) : Int) = 221 := rfl
  refine Cal_ex (ls := [.inr (.inr (.inl 71)), .inl l, .inl o]) rfl mna_159 mml_159 mhl_159 rfl rfl ?_
  unfold fSays
  by_cases h1 : 0 ≤ l ∧ l < ga σ 72 13
  · by_cases h2 : 0 ≤ o ∧ o < ga σ 72 28
    · have h1' : 0 ≤ l ∧ l < S 0 13 := by omega
      have h2' : 0 ≤ o ∧ o < S 0 28 := by omega
      rw [if_pos ⟨h1', h2'⟩]
      have hr1 := RW_rem h.1 hS.1
      have hG1 := GOK_rem hS.1 hS.2.2.2.1.1
      have hO1 := MOKn hr1 (by omega) hG1
      have r13 := rRem_lo hS.1 (i := 13) (by omega)
      have r28 := rRem_lo hS.1 (i := 28) (by omega)
      have b1 : ga (notM σ) 72 13 = S 0 13 := (hr1 13 (by omega) (by omega)).trans r13
      have b2 : ga (notM σ) 72 28 = S 0 28 := (hr1 28 (by omega) (by omega)).trans r28
      have hr2 := RW_say hr1 (by omega) hG1 (l := l) (o := o) (by omega) (by omega)
      have er : ga (sayM (notM σ) 72 l o) 72 (1 + o) = rSay (rRem (S 0)) l o (1 + o) := hr2 (1 + o) (by omega) (by omega)
      simp (disch := first | with_reducible assumption | omega | exact ga_in _ _ _ | exact gg_in _ _ _ | (unfold InR; omega) | (unfold InL; omega) | (simp only [shC_71, shC_72, shC_73, shC_74, shC_75, shC_76, shC_77, shC_78, shC_79, shL_72, shL_73, shL_74, shL_75, shL_76, shL_77, shL_78, shL_79]; first | done | omega)) only [q159_0, q159_1, q159_2, q159_5, q159_8, q159_9, q159_10, q159_13, q159_16, q159_17, q159_20, q159_21, q159_22, q159_25, q159_26, q159_29, q159_30, q159_31, q159_34, q159_35, q159_38, q159_39, q159_40, q159_41, q159_42, shC_71, shC_72, shC_73, shC_74, shC_75, shC_76, shC_77, shC_78, shC_79, shL_72, shL_73, shL_74, shL_75, shL_76, shL_77, shL_78, shL_79, shR_71_0, shR_71_1, shR_71_2, shR_71_3, shR_71_4, shR_71_5, shR_71_8, shR_71_15, c221, k122 hO.1, k123 hO.2.1, h1, h2, k157 (σ := σ) (by omega), k132 M72 hO1, pushR_I, pushR_L, pushR_R, pushR_V, InR_gg, InR_ga, InR_wr, InL_gl, InR_b, b01, b01_0, if_true, if_false, not_true_eq_false, not_false_eq_true, and_true, true_and, and_self, Sum.inl.injEq, one0, Bool.false_eq_true]
      rw [er]
      exact MO_row h hr2 (ONE_trans not_one say_one)
    · rw [if_neg (fun q => h2 (by have := q.2; unfold hasO at this; omega))]
      simp (disch := first | with_reducible assumption | omega | exact ga_in _ _ _ | exact gg_in _ _ _ | (unfold InR; omega) | (unfold InL; omega) | (simp only [shC_71, shC_72, shC_73, shC_74, shC_75, shC_76, shC_77, shC_78, shC_79, shL_72, shL_73, shL_74, shL_75, shL_76, shL_77, shL_78, shL_79]; first | done | omega)) only [q159_0, q159_1, q159_2, q159_5, q159_8, q159_9, q159_10, q159_13, q159_16, q159_17, q159_20, q159_21, q159_22, q159_25, q159_26, q159_29, q159_30, q159_31, q159_34, q159_35, q159_38, q159_39, q159_40, q159_41, q159_42, shC_71, shC_72, shC_73, shC_74, shC_75, shC_76, shC_77, shC_78, shC_79, shL_72, shL_73, shL_74, shL_75, shL_76, shL_77, shL_78, shL_79, shR_71_0, shR_71_1, shR_71_2, shR_71_3, shR_71_4, shR_71_5, shR_71_8, shR_71_15, k122 hO.1, k123 hO.2.1, h1, h2, k118, pushR_I, pushR_L, pushR_R, pushR_V, InR_gg, InR_ga, InR_wr, InL_gl, InR_b, b01, b01_0, if_true, if_false, not_true_eq_false, not_false_eq_true, and_true, true_and, and_self, Sum.inl.injEq, one0, Bool.false_eq_true]
      exact MO_bad h
  · rw [if_neg (fun q => h1 (by have := q.1; unfold hasL at this; omega))]
    simp (disch := first | with_reducible assumption | omega | exact ga_in _ _ _ | exact gg_in _ _ _ | (unfold InR; omega) | (unfold InL; omega) | (simp only [shC_71, shC_72, shC_73, shC_74, shC_75, shC_76, shC_77, shC_78, shC_79, shL_72, shL_73, shL_74, shL_75, shL_76, shL_77, shL_78, shL_79]; first | done | omega)) only [q159_0, q159_1, q159_2, q159_5, q159_8, q159_9, q159_10, q159_13, q159_16, q159_17, q159_20, q159_21, q159_22, q159_25, q159_26, q159_29, q159_30, q159_31, q159_34, q159_35, q159_38, q159_39, q159_40, q159_41, q159_42, shC_71, shC_72, shC_73, shC_74, shC_75, shC_76, shC_77, shC_78, shC_79, shL_72, shL_73, shL_74, shL_75, shL_76, shL_77, shL_78, shL_79, shR_71_0, shR_71_1, shR_71_2, shR_71_3, shR_71_4, shR_71_5, shR_71_8, shR_71_15, k122 hO.1, h1, k118, pushR_I, pushR_L, pushR_R, pushR_V, InR_gg, InR_ga, InR_wr, InL_gl, InR_b, b01, b01_0, if_true, if_false, not_true_eq_false, not_false_eq_true, and_true, true_and, and_self, Sum.inl.injEq, one0, Bool.false_eq_true]
    exact MO_bad h
theorem o160 (h : MR σ S) (hS : SOK S) {l : Int} (hl : InR l) : CalE (d + 20) 160 [.inr (.inr (.inl 71)), .inl l] σ (OPM σ (fForgets S l)) := by
  have hO := MOKn h.1 (by omega) hS.1
  have e13 : ga σ 72 13 = S 0 13 := h.1 13 (by omega) (by omega)
  have e116 : ga σ 72 116 = S 0 116 := h.1 116 (by omega) (by omega)
  have g9 := hS.1.2.2.2.2.2.2.2.2.1
  have g13 := hS.1.1
  have c221 : ((221 : Nat) : Int) = 221 := rfl
  refine Cal_ex (ls := [.inr (.inr (.inl 71)), .inl l, aU]) rfl mna_160 mml_160 mhl_160 rfl rfl ?_
  unfold fForgets
  by_cases h1 : 0 ≤ l ∧ l < ga σ 72 13
  · have h1' : 0 ≤ l ∧ l < S 0 13 := by omega
    rw [if_pos h1']
    have ek : ga σ 72 (6 + l) = S 0 (6 + l) := h.1 (6 + l) (by omega) (by omega)
    have hr : InR (S 0 (6 + l)) := by rw [← ek]; exact ga_in _ _ _
    by_cases h2 : S 0 (6 + l) = 0
    · rw [if_pos h2]
      simp (disch := first | with_reducible assumption | omega | exact ga_in _ _ _ | exact gg_in _ _ _ | (unfold InR; omega) | (unfold InL; omega) | (simp only [shC_71, shC_72, shC_73, shC_74, shC_75, shC_76, shC_77, shC_78, shC_79, shL_72, shL_73, shL_74, shL_75, shL_76, shL_77, shL_78, shL_79]; first | done | omega)) only [q160_0, q160_1, q160_2, q160_5, q160_8, q160_9, q160_12, q160_13, q160_14, q160_17, q160_19, q160_20, q160_21, q160_22, q160_23, q160_24, q160_27, q160_28, q160_31, q160_32, q160_33, q160_36, q160_37, q160_40, q160_42, q160_43, q160_44, q160_45, q160_46, q160_47, shC_71, shC_72, shC_73, shC_74, shC_75, shC_76, shC_77, shC_78, shC_79, shL_72, shL_73, shL_74, shL_75, shL_76, shL_77, shL_78, shL_79, shR_71_0, shR_71_1, shR_71_2, shR_71_3, shR_71_4, shR_71_5, shR_71_8, shR_71_15, c221, k122 hO.1, h1, ek, h2, k119, pushR_I, pushR_L, pushR_R, pushR_V, InR_gg, InR_ga, InR_wr, InL_gl, InR_b, b01, b01_0, if_true, if_false, not_true_eq_false, not_false_eq_true, and_true, true_and, and_self, Sum.inl.injEq, one0, Bool.false_eq_true]
      exact MO_no h
    · rw [if_neg h2]
      have hr1 := RW_rem h.1 hS.1
      have hG1 := GOK_rem hS.1 hS.2.2.2.1.1
      simp (disch := first | with_reducible assumption | omega | exact ga_in _ _ _ | exact gg_in _ _ _ | (unfold InR; omega) | (unfold InL; omega) | (simp only [shC_71, shC_72, shC_73, shC_74, shC_75, shC_76, shC_77, shC_78, shC_79, shL_72, shL_73, shL_74, shL_75, shL_76, shL_77, shL_78, shL_79]; first | done | omega)) only [q160_0, q160_1, q160_2, q160_5, q160_8, q160_9, q160_12, q160_13, q160_14, q160_17, q160_19, q160_20, q160_21, q160_22, q160_23, q160_24, q160_27, q160_28, q160_31, q160_32, q160_33, q160_36, q160_37, q160_40, q160_42, q160_43, q160_44, q160_45, q160_46, q160_47, shC_71, shC_72, shC_73, shC_74, shC_75, shC_76, shC_77, shC_78, shC_79, shL_72, shL_73, shL_74, shL_75, shL_76, shL_77, shL_78, shL_79, shR_71_0, shR_71_1, shR_71_2, shR_71_3, shR_71_4, shR_71_5, shR_71_8, shR_71_15, c221, k122 hO.1, h1, ek, h2, k157 (σ := σ) (by omega), pushR_I, pushR_L, pushR_R, pushR_V, InR_gg, InR_ga, InR_wr, InL_gl, InR_b, b01, b01_0, if_true, if_false, not_true_eq_false, not_false_eq_true, and_true, true_and, and_self, Sum.inl.injEq, one0, Bool.false_eq_true]
      exact MO_row h (RW_0 hr1 (by omega)) (ONE_ua not_one)
  · rw [if_neg (fun q => h1 (by unfold hasL at q; omega))]
    simp (disch := first | with_reducible assumption | omega | exact ga_in _ _ _ | exact gg_in _ _ _ | (unfold InR; omega) | (unfold InL; omega) | (simp only [shC_71, shC_72, shC_73, shC_74, shC_75, shC_76, shC_77, shC_78, shC_79, shL_72, shL_73, shL_74, shL_75, shL_76, shL_77, shL_78, shL_79]; first | done | omega)) only [q160_0, q160_1, q160_2, q160_5, q160_8, q160_9, q160_12, q160_13, q160_14, q160_17, q160_19, q160_20, q160_21, q160_22, q160_23, q160_24, q160_27, q160_28, q160_31, q160_32, q160_33, q160_36, q160_37, q160_40, q160_42, q160_43, q160_44, q160_45, q160_46, q160_47, shC_71, shC_72, shC_73, shC_74, shC_75, shC_76, shC_77, shC_78, shC_79, shL_72, shL_73, shL_74, shL_75, shL_76, shL_77, shL_78, shL_79, shR_71_0, shR_71_1, shR_71_2, shR_71_3, shR_71_4, shR_71_5, shR_71_8, shR_71_15, k122 hO.1, h1, k118, pushR_I, pushR_L, pushR_R, pushR_V, InR_gg, InR_ga, InR_wr, InL_gl, InR_b, b01, b01_0, if_true, if_false, not_true_eq_false, not_false_eq_true, and_true, true_and, and_self, Sum.inl.injEq, one0, Bool.false_eq_true]
    exact MO_bad h
def undM (σ : SG) : SG := mR (ua σ 72 116 (ga σ 72 116 - 1)) 72 0 13 (fun x => ga (ua σ 72 116 (ga σ 72 116 - 1)) 72 (((117 + 13 * ((ga σ 72 116).toNat - 1) : Nat) : Int) + (x : Int)))
theorem RW_undo (h : RW σ 72 221 g) (hg : GOK g) (h8 : 0 < g 116) : RW (undM σ) 72 221 (rUndo g) := by
  have e116 := h 116 (by omega) (by omega)
  have g9 := hg.2.2.2.2.2.2.2.2.1
  intro i h0 h1
  unfold undM rUndo
  rw [ga_mR _ _ _ _ _ _ h0, if_pos rfl, e116]
  by_cases c : 0 ≤ i ∧ i < 13
  · rw [if_pos ⟨by omega, by omega⟩, if_pos c, wr_id (ga_in _ _ _), ga_ua_ni _ _ _ _ _ (by omega) (by omega) (by omega),
      show (((117 + 13 * ((g 116).toNat - 1) : Nat) : Int) + ((i.toNat - 0 : Nat) : Int)) = 117 + 13 * (g 116 - 1) + i by omega]
    exact h _ (by omega) (by omega)
  · rw [if_neg (by omega), if_neg c]
    by_cases c2 : i = 116
    · subst c2
      rw [ga_ua_eq, if_pos rfl, wr_id ⟨by omega, by omega⟩]
    · rw [ga_ua_ni _ _ _ _ _ (by omega) h0 c2, if_neg c2]
      exact h i h0 h1
theorem o161 (h : MR σ S) (hS : SOK S) : CalE (d + 20) 161 [.inr (.inr (.inl 71))] σ (OPM σ (fUndo S)) := by
  have e116 : ga σ 72 116 = S 0 116 := h.1 116 (by omega) (by omega)
  have g9 := hS.1.2.2.2.2.2.2.2.2.1
  have c221 : ((221 : Nat) : Int) = 221 := rfl
  refine Cal_ex (ls := [.inr (.inr (.inl 71))]) rfl mna_161 mml_161 mhl_161 rfl rfl ?_
  unfold fUndo
  by_cases h1 : 0 < S 0 116
  · have h1' : ¬ ga σ 72 116 = 0 := by omega
    rw [if_pos h1]
    have hr := RW_undo h.1 hS.1 h1
    have e2 : ga (ua σ 72 116 (ga σ 72 116 - 1)) 72 116 = ga σ 72 116 - 1 := by rw [ga_ua_eq, wr_id ⟨by omega, by omega⟩]
    have K1 : ∀ K, CalK (d + 19) 136 [.inr (.inr (.inl 72)), .inl (117 + 13 * (ga σ 72 116 - 1)), .inr (.inr (.inl 72)), .inl 0, .inl 13] (ua σ 72 116 (ga σ 72 116 - 1)) K = K aU (undM σ) := fun K => by
      rw [show (117 : Int) + 13 * (ga σ 72 116 - 1) = ((117 + 13 * ((ga σ 72 116).toNat - 1) : Nat) : Int) by omega]
      exact k136 (d := d + 18) (f := 72) (t := 72) (i := 117 + 13 * ((ga σ 72 116).toNat - 1)) (j := 0) (N := 13) shC_72 shC_72 (by rw [shL_72]; omega) (by rw [shL_72]; omega) (Or.inr (by omega))
    have e0 : ga (undM σ) 72 0 = rUndo (S 0) 0 := hr 0 (by omega) (by omega)
    simp (disch := first | with_reducible assumption | omega | exact ga_in _ _ _ | exact gg_in _ _ _ | (unfold InR; omega) | (unfold InL; omega) | (simp only [shC_71, shC_72, shC_73, shC_74, shC_75, shC_76, shC_77, shC_78, shC_79, shL_72, shL_73, shL_74, shL_75, shL_76, shL_77, shL_78, shL_79]; first | done | omega)) only [q161_0, q161_1, q161_4, q161_6, q161_7, q161_10, q161_11, q161_14, q161_15, q161_16, q161_19, q161_21, q161_22, q161_23, q161_24, q161_25, q161_26, q161_27, q161_30, q161_32, q161_34, q161_35, q161_38, q161_40, q161_41, q161_42, q161_43, q161_44, q161_47, q161_48, q161_50, q161_53, q161_54, q161_57, q161_58, q161_59, shC_71, shC_72, shC_73, shC_74, shC_75, shC_76, shC_77, shC_78, shC_79, shL_72, shL_73, shL_74, shL_75, shL_76, shL_77, shL_78, shL_79, shR_71_0, shR_71_1, shR_71_2, shR_71_3, shR_71_4, shR_71_5, shR_71_8, shR_71_15, c221, h1', e2, K1, pushR_I, pushR_L, pushR_R, pushR_V, InR_gg, InR_ga, InR_wr, InL_gl, InR_b, b01, b01_0, if_true, if_false, not_true_eq_false, not_false_eq_true, and_true, true_and, and_self, Sum.inl.injEq, one0, Bool.false_eq_true]
    rw [e0]
    exact MO_row h hr (ONE_mR (ONE_ua (ONE_refl 72 σ)))
  · have h1' : ga σ 72 116 = 0 := by omega
    rw [if_neg h1]
    simp (disch := first | with_reducible assumption | omega | exact ga_in _ _ _ | exact gg_in _ _ _ | (unfold InR; omega) | (unfold InL; omega) | (simp only [shC_71, shC_72, shC_73, shC_74, shC_75, shC_76, shC_77, shC_78, shC_79, shL_72, shL_73, shL_74, shL_75, shL_76, shL_77, shL_78, shL_79]; first | done | omega)) only [q161_0, q161_1, q161_4, q161_6, q161_7, q161_10, q161_11, q161_14, q161_15, q161_16, q161_19, q161_21, q161_22, q161_23, q161_24, q161_25, q161_26, q161_27, q161_30, q161_32, q161_34, q161_35, q161_38, q161_40, q161_41, q161_42, q161_43, q161_44, q161_47, q161_48, q161_50, q161_53, q161_54, q161_57, q161_58, q161_59, shC_71, shC_72, shC_73, shC_74, shC_75, shC_76, shC_77, shC_78, shC_79, shL_72, shL_73, shL_74, shL_75, shL_76, shL_77, shL_78, shL_79, shR_71_0, shR_71_1, shR_71_2, shR_71_3, shR_71_4, shR_71_5, shR_71_8, shR_71_15, c221, h1', k119, pushR_I, pushR_L, pushR_R, pushR_V, InR_gg, InR_ga, InR_wr, InL_gl, InR_b, b01, b01_0, if_true, if_false, not_true_eq_false, not_false_eq_true, and_true, true_and, and_self, Sum.inl.injEq, one0, Bool.false_eq_true]
    exact MO_no h
theorem o162 (h : MR σ S) (hS : SOK S) {l w : Int} (hl : InR l) (hw : InR w) : CalE (d + 20) 162 [.inr (.inr (.inl 71)), .inl l, .inl w] σ (OPM σ (fOf S l w)) := by
  have hO := MOKn h.1 (by omega) hS.1
  have e13 : ga σ 72 13 = S 0 13 := h.1 13 (by omega) (by omega)
  have g13 := hS.1.1
  have c221 : ((221 : Nat) : Int) = 221 := rfl
  refine Cal_ex (ls := [.inr (.inr (.inl 71)), .inl l, .inl w]) rfl mna_162 mml_162 mhl_162 rfl rfl ?_
  unfold fOf
  by_cases h1 : 0 ≤ l ∧ l < ga σ 72 13
  · have h1' : 0 ≤ l ∧ l < S 0 13 := by omega
    have a1 : ga σ 72 (14 + l) = S 0 (14 + l) := h.1 (14 + l) (by omega) (by omega)
    have a2 : ga σ 72 (21 + l) = S 0 (21 + l) := h.1 (21 + l) (by omega) (by omega)
    have a3 : ga σ 72 (6 + l) = S 0 (6 + l) := h.1 (6 + l) (by omega) (by omega)
    by_cases h2 : 0 ≤ w ∧ w ≤ 3
    · rw [if_pos ⟨h1', h2⟩]
      have hc : w = 0 ∨ w = 1 ∨ w = 2 ∨ w = 3 := by omega
      rcases hc with rfl | rfl | rfl | rfl
      · rw [if_pos rfl, ← a1]
        simp (disch := first | with_reducible assumption | omega | exact ga_in _ _ _ | exact gg_in _ _ _ | (unfold InR; omega) | (unfold InL; omega) | (simp only [shC_71, shC_72, shC_73, shC_74, shC_75, shC_76, shC_77, shC_78, shC_79, shL_72, shL_73, shL_74, shL_75, shL_76, shL_77, shL_78, shL_79]; first | done | omega)) only [q162_0, q162_1, q162_2, q162_5, q162_8, q162_9, q162_10, q162_11, q162_14, q162_17, q162_18, q162_21, q162_22, q162_23, q162_26, q162_27, q162_30, q162_32, q162_33, q162_34, q162_35, q162_38, q162_39, q162_40, q162_43, q162_44, q162_47, q162_49, q162_50, q162_51, q162_52, q162_55, q162_56, q162_57, q162_60, q162_61, q162_64, q162_66, q162_67, q162_68, q162_69, q162_72, q162_73, q162_76, q162_77, q162_80, shC_71, shC_72, shC_73, shC_74, shC_75, shC_76, shC_77, shC_78, shC_79, shL_72, shL_73, shL_74, shL_75, shL_76, shL_77, shL_78, shL_79, shR_71_0, shR_71_1, shR_71_2, shR_71_3, shR_71_4, shR_71_5, shR_71_8, shR_71_15, c221, k122 hO.1, k116, h1, h2, pushR_I, pushR_L, pushR_R, pushR_V, InR_gg, InR_ga, InR_wr, InL_gl, InR_b, b01, b01_0, if_true, if_false, not_true_eq_false, not_false_eq_true, and_true, true_and, and_self, Sum.inl.injEq, one0, Bool.false_eq_true]
        exact MO_id h
      · rw [if_neg (by omega), if_pos rfl, ← a2]
        simp (disch := first | with_reducible assumption | omega | exact ga_in _ _ _ | exact gg_in _ _ _ | (unfold InR; omega) | (unfold InL; omega) | (simp only [shC_71, shC_72, shC_73, shC_74, shC_75, shC_76, shC_77, shC_78, shC_79, shL_72, shL_73, shL_74, shL_75, shL_76, shL_77, shL_78, shL_79]; first | done | omega)) only [q162_0, q162_1, q162_2, q162_5, q162_8, q162_9, q162_10, q162_11, q162_14, q162_17, q162_18, q162_21, q162_22, q162_23, q162_26, q162_27, q162_30, q162_32, q162_33, q162_34, q162_35, q162_38, q162_39, q162_40, q162_43, q162_44, q162_47, q162_49, q162_50, q162_51, q162_52, q162_55, q162_56, q162_57, q162_60, q162_61, q162_64, q162_66, q162_67, q162_68, q162_69, q162_72, q162_73, q162_76, q162_77, q162_80, shC_71, shC_72, shC_73, shC_74, shC_75, shC_76, shC_77, shC_78, shC_79, shL_72, shL_73, shL_74, shL_75, shL_76, shL_77, shL_78, shL_79, shR_71_0, shR_71_1, shR_71_2, shR_71_3, shR_71_4, shR_71_5, shR_71_8, shR_71_15, c221, k122 hO.1, k116, h1, h2, pushR_I, pushR_L, pushR_R, pushR_V, InR_gg, InR_ga, InR_wr, InL_gl, InR_b, b01, b01_0, if_true, if_false, not_true_eq_false, not_false_eq_true, and_true, true_and, and_self, Sum.inl.injEq, one0, Bool.false_eq_true]
        exact MO_id h
      · rw [if_neg (by omega), if_neg (by omega), if_pos rfl, ← a3]
        simp (disch := first | with_reducible assumption | omega | exact ga_in _ _ _ | exact gg_in _ _ _ | (unfold InR; omega) | (unfold InL; omega) | (simp only [shC_71, shC_72, shC_73, shC_74, shC_75, shC_76, shC_77, shC_78, shC_79, shL_72, shL_73, shL_74, shL_75, shL_76, shL_77, shL_78, shL_79]; first | done | omega)) only [q162_0, q162_1, q162_2, q162_5, q162_8, q162_9, q162_10, q162_11, q162_14, q162_17, q162_18, q162_21, q162_22, q162_23, q162_26, q162_27, q162_30, q162_32, q162_33, q162_34, q162_35, q162_38, q162_39, q162_40, q162_43, q162_44, q162_47, q162_49, q162_50, q162_51, q162_52, q162_55, q162_56, q162_57, q162_60, q162_61, q162_64, q162_66, q162_67, q162_68, q162_69, q162_72, q162_73, q162_76, q162_77, q162_80, shC_71, shC_72, shC_73, shC_74, shC_75, shC_76, shC_77, shC_78, shC_79, shL_72, shL_73, shL_74, shL_75, shL_76, shL_77, shL_78, shL_79, shR_71_0, shR_71_1, shR_71_2, shR_71_3, shR_71_4, shR_71_5, shR_71_8, shR_71_15, c221, k122 hO.1, k116, h1, h2, show ¬ ((2 : Int) = 0) by omega, show ¬ ((2 : Int) = 1) by omega, pushR_I, pushR_L, pushR_R, pushR_V, InR_gg, InR_ga, InR_wr, InL_gl, InR_b, b01, b01_0, if_true, if_false, not_true_eq_false, not_false_eq_true, and_true, true_and, and_self, Sum.inl.injEq, one0, Bool.false_eq_true]
        exact MO_id h
      · have hb : 0 ≤ ltG (S 0) l ∧ ltG (S 0) l ≤ 4008 := ltI_b (u := S 0 (21 + l)) (by have := (hS.1.2.2.2.1 l h1'.1 h1'.2).2.1; omega) (by have := (hS.1.2.2.2.1 l h1'.1 h1'.2).2.2; omega)
        have hb2 : InR (ltM σ 72 l) := by rw [ltM_G h.1 (by omega) hS.1 h1']; exact ⟨by omega, by omega⟩
        rw [if_neg (by omega), if_neg (by omega), if_neg (by omega), ← ltM_G h.1 (by omega) hS.1 h1']
        simp (disch := first | with_reducible assumption | omega | exact ga_in _ _ _ | exact gg_in _ _ _ | (unfold InR; omega) | (unfold InL; omega) | (simp only [shC_71, shC_72, shC_73, shC_74, shC_75, shC_76, shC_77, shC_78, shC_79, shL_72, shL_73, shL_74, shL_75, shL_76, shL_77, shL_78, shL_79]; first | done | omega)) only [q162_0, q162_1, q162_2, q162_5, q162_8, q162_9, q162_10, q162_11, q162_14, q162_17, q162_18, q162_21, q162_22, q162_23, q162_26, q162_27, q162_30, q162_32, q162_33, q162_34, q162_35, q162_38, q162_39, q162_40, q162_43, q162_44, q162_47, q162_49, q162_50, q162_51, q162_52, q162_55, q162_56, q162_57, q162_60, q162_61, q162_64, q162_66, q162_67, q162_68, q162_69, q162_72, q162_73, q162_76, q162_77, q162_80, shC_71, shC_72, shC_73, shC_74, shC_75, shC_76, shC_77, shC_78, shC_79, shL_72, shL_73, shL_74, shL_75, shL_76, shL_77, shL_78, shL_79, shR_71_0, shR_71_1, shR_71_2, shR_71_3, shR_71_4, shR_71_5, shR_71_8, shR_71_15, c221, k122 hO.1, k116, h1, h2, k129 M72 hO, show ¬ ((3 : Int) = 0) by omega, show ¬ ((3 : Int) = 1) by omega, show ¬ ((3 : Int) = 2) by omega, pushR_I, pushR_L, pushR_R, pushR_V, InR_gg, InR_ga, InR_wr, InL_gl, InR_b, b01, b01_0, if_true, if_false, not_true_eq_false, not_false_eq_true, and_true, true_and, and_self, Sum.inl.injEq, one0, Bool.false_eq_true]
        exact MO_id h
    · rw [if_neg (fun q => h2 q.2)]
      simp (disch := first | with_reducible assumption | omega | exact ga_in _ _ _ | exact gg_in _ _ _ | (unfold InR; omega) | (unfold InL; omega) | (simp only [shC_71, shC_72, shC_73, shC_74, shC_75, shC_76, shC_77, shC_78, shC_79, shL_72, shL_73, shL_74, shL_75, shL_76, shL_77, shL_78, shL_79]; first | done | omega)) only [q162_0, q162_1, q162_2, q162_5, q162_8, q162_9, q162_10, q162_11, q162_14, q162_17, q162_18, q162_21, q162_22, q162_23, q162_26, q162_27, q162_30, q162_32, q162_33, q162_34, q162_35, q162_38, q162_39, q162_40, q162_43, q162_44, q162_47, q162_49, q162_50, q162_51, q162_52, q162_55, q162_56, q162_57, q162_60, q162_61, q162_64, q162_66, q162_67, q162_68, q162_69, q162_72, q162_73, q162_76, q162_77, q162_80, shC_71, shC_72, shC_73, shC_74, shC_75, shC_76, shC_77, shC_78, shC_79, shL_72, shL_73, shL_74, shL_75, shL_76, shL_77, shL_78, shL_79, shR_71_0, shR_71_1, shR_71_2, shR_71_3, shR_71_4, shR_71_5, shR_71_8, shR_71_15, k122 hO.1, k116, h1, h2, k118, pushR_I, pushR_L, pushR_R, pushR_V, InR_gg, InR_ga, InR_wr, InL_gl, InR_b, b01, b01_0, if_true, if_false, not_true_eq_false, not_false_eq_true, and_true, true_and, and_self, Sum.inl.injEq, one0, Bool.false_eq_true]
      exact MO_bad h
  · rw [if_neg (fun q => h1 (by have := q.1; unfold hasL at this; omega))]
    simp (disch := first | with_reducible assumption | omega | exact ga_in _ _ _ | exact gg_in _ _ _ | (unfold InR; omega) | (unfold InL; omega) | (simp only [shC_71, shC_72, shC_73, shC_74, shC_75, shC_76, shC_77, shC_78, shC_79, shL_72, shL_73, shL_74, shL_75, shL_76, shL_77, shL_78, shL_79]; first | done | omega)) only [q162_0, q162_1, q162_2, q162_5, q162_8, q162_9, q162_10, q162_11, q162_14, q162_17, q162_18, q162_21, q162_22, q162_23, q162_26, q162_27, q162_30, q162_32, q162_33, q162_34, q162_35, q162_38, q162_39, q162_40, q162_43, q162_44, q162_47, q162_49, q162_50, q162_51, q162_52, q162_55, q162_56, q162_57, q162_60, q162_61, q162_64, q162_66, q162_67, q162_68, q162_69, q162_72, q162_73, q162_76, q162_77, q162_80, shC_71, shC_72, shC_73, shC_74, shC_75, shC_76, shC_77, shC_78, shC_79, shL_72, shL_73, shL_74, shL_75, shL_76, shL_77, shL_78, shL_79, shR_71_0, shR_71_1, shR_71_2, shR_71_3, shR_71_4, shR_71_5, shR_71_8, shR_71_15, k122 hO.1, h1, k118, pushR_I, pushR_L, pushR_R, pushR_V, InR_gg, InR_ga, InR_wr, InL_gl, InR_b, b01, b01_0, if_true, if_false, not_true_eq_false, not_false_eq_true, and_true, true_and, and_self, Sum.inl.injEq, one0, Bool.false_eq_true]
    exact MO_bad h
theorem o163 (h : MR σ S) (hS : SOK S) {o w : Int} (ho : InR o) (hw : InR w) : CalE (d + 20) 163 [.inr (.inr (.inl 71)), .inl o, .inl w] σ (OPM σ (fAbout S o w)) := by
  have hO := MOKn h.1 (by omega) hS.1
  have e28 : ga σ 72 28 = S 0 28 := h.1 28 (by omega) (by omega)
  have g28 := hS.1.2.1
  have c221 : ((221 : Nat) : Int) = 221 := rfl
  refine Cal_ex (ls := [.inr (.inr (.inl 71)), .inl o, .inl w]) rfl mna_163 mml_163 mhl_163 rfl rfl ?_
  unfold fAbout
  by_cases h1 : 0 ≤ o ∧ o < ga σ 72 28
  · have h1' : 0 ≤ o ∧ o < S 0 28 := by omega
    have a1 : ga σ 72 (29 + o) = S 0 (29 + o) := h.1 (29 + o) (by omega) (by omega)
    have a2 : ga σ 72 (1 + o) = S 0 (1 + o) := h.1 (1 + o) (by omega) (by omega)
    by_cases h2 : 0 ≤ w ∧ w ≤ 2
    · rw [if_pos ⟨h1', h2⟩]
      have hc : w = 0 ∨ w = 1 ∨ w = 2 := by omega
      rcases hc with rfl | rfl | rfl
      · rw [if_pos rfl, ← a1]
        simp (disch := first | with_reducible assumption | omega | exact ga_in _ _ _ | exact gg_in _ _ _ | (unfold InR; omega) | (unfold InL; omega) | (simp only [shC_71, shC_72, shC_73, shC_74, shC_75, shC_76, shC_77, shC_78, shC_79, shL_72, shL_73, shL_74, shL_75, shL_76, shL_77, shL_78, shL_79]; first | done | omega)) only [q163_0, q163_1, q163_2, q163_5, q163_8, q163_9, q163_10, q163_11, q163_14, q163_17, q163_18, q163_21, q163_22, q163_23, q163_26, q163_27, q163_30, q163_32, q163_33, q163_34, q163_35, q163_38, q163_39, q163_40, q163_43, q163_44, q163_47, q163_48, q163_49, q163_50, q163_51, q163_54, q163_55, q163_58, q163_59, q163_60, q163_61, q163_62, q163_64, q163_67, q163_68, q163_71, q163_72, shC_71, shC_72, shC_73, shC_74, shC_75, shC_76, shC_77, shC_78, shC_79, shL_72, shL_73, shL_74, shL_75, shL_76, shL_77, shL_78, shL_79, shR_71_0, shR_71_1, shR_71_2, shR_71_3, shR_71_4, shR_71_5, shR_71_8, shR_71_15, c221, k123 hO.2.1, k116, h1, h2, pushR_I, pushR_L, pushR_R, pushR_V, InR_gg, InR_ga, InR_wr, InL_gl, InR_b, b01, b01_0, if_true, if_false, not_true_eq_false, not_false_eq_true, and_true, true_and, and_self, Sum.inl.injEq, one0, Bool.false_eq_true]
        exact MO_id h
      · rw [if_neg (by omega), if_pos rfl, ← a2]
        simp (disch := first | with_reducible assumption | omega | exact ga_in _ _ _ | exact gg_in _ _ _ | (unfold InR; omega) | (unfold InL; omega) | (simp only [shC_71, shC_72, shC_73, shC_74, shC_75, shC_76, shC_77, shC_78, shC_79, shL_72, shL_73, shL_74, shL_75, shL_76, shL_77, shL_78, shL_79]; first | done | omega)) only [q163_0, q163_1, q163_2, q163_5, q163_8, q163_9, q163_10, q163_11, q163_14, q163_17, q163_18, q163_21, q163_22, q163_23, q163_26, q163_27, q163_30, q163_32, q163_33, q163_34, q163_35, q163_38, q163_39, q163_40, q163_43, q163_44, q163_47, q163_48, q163_49, q163_50, q163_51, q163_54, q163_55, q163_58, q163_59, q163_60, q163_61, q163_62, q163_64, q163_67, q163_68, q163_71, q163_72, shC_71, shC_72, shC_73, shC_74, shC_75, shC_76, shC_77, shC_78, shC_79, shL_72, shL_73, shL_74, shL_75, shL_76, shL_77, shL_78, shL_79, shR_71_0, shR_71_1, shR_71_2, shR_71_3, shR_71_4, shR_71_5, shR_71_8, shR_71_15, c221, k123 hO.2.1, k116, h1, h2, pushR_I, pushR_L, pushR_R, pushR_V, InR_gg, InR_ga, InR_wr, InL_gl, InR_b, b01, b01_0, if_true, if_false, not_true_eq_false, not_false_eq_true, and_true, true_and, and_self, Sum.inl.injEq, one0, Bool.false_eq_true]
        exact MO_id h
      · rw [if_neg (by omega), if_neg (by omega), ← a2]
        unfold hot1
        by_cases c : 20 ≤ ga σ 72 (1 + o)
        · have c' : ¬ ga σ 72 (1 + o) < 20 := by omega
          rw [if_pos c]
          simp (disch := first | with_reducible assumption | omega | exact ga_in _ _ _ | exact gg_in _ _ _ | (unfold InR; omega) | (unfold InL; omega) | (simp only [shC_71, shC_72, shC_73, shC_74, shC_75, shC_76, shC_77, shC_78, shC_79, shL_72, shL_73, shL_74, shL_75, shL_76, shL_77, shL_78, shL_79]; first | done | omega)) only [q163_0, q163_1, q163_2, q163_5, q163_8, q163_9, q163_10, q163_11, q163_14, q163_17, q163_18, q163_21, q163_22, q163_23, q163_26, q163_27, q163_30, q163_32, q163_33, q163_34, q163_35, q163_38, q163_39, q163_40, q163_43, q163_44, q163_47, q163_48, q163_49, q163_50, q163_51, q163_54, q163_55, q163_58, q163_59, q163_60, q163_61, q163_62, q163_64, q163_67, q163_68, q163_71, q163_72, shC_71, shC_72, shC_73, shC_74, shC_75, shC_76, shC_77, shC_78, shC_79, shL_72, shL_73, shL_74, shL_75, shL_76, shL_77, shL_78, shL_79, shR_71_0, shR_71_1, shR_71_2, shR_71_3, shR_71_4, shR_71_5, shR_71_8, shR_71_15, c221, k123 hO.2.1, k116, h1, h2, c', show ¬ ((2 : Int) = 0) by omega, show ¬ ((2 : Int) = 1) by omega, pushR_I, pushR_L, pushR_R, pushR_V, InR_gg, InR_ga, InR_wr, InL_gl, InR_b, b01, b01_0, if_true, if_false, not_true_eq_false, not_false_eq_true, and_true, true_and, and_self, Sum.inl.injEq, one0, Bool.false_eq_true]
          exact MO_id h
        · have c' : ga σ 72 (1 + o) < 20 := by omega
          rw [if_neg c]
          simp (disch := first | with_reducible assumption | omega | exact ga_in _ _ _ | exact gg_in _ _ _ | (unfold InR; omega) | (unfold InL; omega) | (simp only [shC_71, shC_72, shC_73, shC_74, shC_75, shC_76, shC_77, shC_78, shC_79, shL_72, shL_73, shL_74, shL_75, shL_76, shL_77, shL_78, shL_79]; first | done | omega)) only [q163_0, q163_1, q163_2, q163_5, q163_8, q163_9, q163_10, q163_11, q163_14, q163_17, q163_18, q163_21, q163_22, q163_23, q163_26, q163_27, q163_30, q163_32, q163_33, q163_34, q163_35, q163_38, q163_39, q163_40, q163_43, q163_44, q163_47, q163_48, q163_49, q163_50, q163_51, q163_54, q163_55, q163_58, q163_59, q163_60, q163_61, q163_62, q163_64, q163_67, q163_68, q163_71, q163_72, shC_71, shC_72, shC_73, shC_74, shC_75, shC_76, shC_77, shC_78, shC_79, shL_72, shL_73, shL_74, shL_75, shL_76, shL_77, shL_78, shL_79, shR_71_0, shR_71_1, shR_71_2, shR_71_3, shR_71_4, shR_71_5, shR_71_8, shR_71_15, c221, k123 hO.2.1, k116, h1, h2, c', show ¬ ((2 : Int) = 0) by omega, show ¬ ((2 : Int) = 1) by omega, pushR_I, pushR_L, pushR_R, pushR_V, InR_gg, InR_ga, InR_wr, InL_gl, InR_b, b01, b01_0, if_true, if_false, not_true_eq_false, not_false_eq_true, and_true, true_and, and_self, Sum.inl.injEq, one0, Bool.false_eq_true]
          exact MO_id h
    · rw [if_neg (fun q => h2 q.2)]
      simp (disch := first | with_reducible assumption | omega | exact ga_in _ _ _ | exact gg_in _ _ _ | (unfold InR; omega) | (unfold InL; omega) | (simp only [shC_71, shC_72, shC_73, shC_74, shC_75, shC_76, shC_77, shC_78, shC_79, shL_72, shL_73, shL_74, shL_75, shL_76, shL_77, shL_78, shL_79]; first | done | omega)) only [q163_0, q163_1, q163_2, q163_5, q163_8, q163_9, q163_10, q163_11, q163_14, q163_17, q163_18, q163_21, q163_22, q163_23, q163_26, q163_27, q163_30, q163_32, q163_33, q163_34, q163_35, q163_38, q163_39, q163_40, q163_43, q163_44, q163_47, q163_48, q163_49, q163_50, q163_51, q163_54, q163_55, q163_58, q163_59, q163_60, q163_61, q163_62, q163_64, q163_67, q163_68, q163_71, q163_72, shC_71, shC_72, shC_73, shC_74, shC_75, shC_76, shC_77, shC_78, shC_79, shL_72, shL_73, shL_74, shL_75, shL_76, shL_77, shL_78, shL_79, shR_71_0, shR_71_1, shR_71_2, shR_71_3, shR_71_4, shR_71_5, shR_71_8, shR_71_15, k123 hO.2.1, k116, h1, h2, k118, pushR_I, pushR_L, pushR_R, pushR_V, InR_gg, InR_ga, InR_wr, InL_gl, InR_b, b01, b01_0, if_true, if_false, not_true_eq_false, not_false_eq_true, and_true, true_and, and_self, Sum.inl.injEq, one0, Bool.false_eq_true]
      exact MO_bad h
  · rw [if_neg (fun q => h1 (by have := q.1; unfold hasO at this; omega))]
    simp (disch := first | with_reducible assumption | omega | exact ga_in _ _ _ | exact gg_in _ _ _ | (unfold InR; omega) | (unfold InL; omega) | (simp only [shC_71, shC_72, shC_73, shC_74, shC_75, shC_76, shC_77, shC_78, shC_79, shL_72, shL_73, shL_74, shL_75, shL_76, shL_77, shL_78, shL_79]; first | done | omega)) only [q163_0, q163_1, q163_2, q163_5, q163_8, q163_9, q163_10, q163_11, q163_14, q163_17, q163_18, q163_21, q163_22, q163_23, q163_26, q163_27, q163_30, q163_32, q163_33, q163_34, q163_35, q163_38, q163_39, q163_40, q163_43, q163_44, q163_47, q163_48, q163_49, q163_50, q163_51, q163_54, q163_55, q163_58, q163_59, q163_60, q163_61, q163_62, q163_64, q163_67, q163_68, q163_71, q163_72, shC_71, shC_72, shC_73, shC_74, shC_75, shC_76, shC_77, shC_78, shC_79, shL_72, shL_73, shL_74, shL_75, shL_76, shL_77, shL_78, shL_79, shR_71_0, shR_71_1, shR_71_2, shR_71_3, shR_71_4, shR_71_5, shR_71_8, shR_71_15, k123 hO.2.1, h1, k118, pushR_I, pushR_L, pushR_R, pushR_V, InR_gg, InR_ga, InR_wr, InL_gl, InR_b, b01, b01_0, if_true, if_false, not_true_eq_false, not_false_eq_true, and_true, true_and, and_self, Sum.inl.injEq, one0, Bool.false_eq_true]
    exact MO_bad h
theorem o164 (h : MR σ S) (hS : SOK S) {o l : Int} (ho : InR o) (hl : InR l) : CalE (d + 20) 164 [.inr (.inr (.inl 71)), .inl o, .inl l] σ (OPM σ (fTakes S o l)) := by
  have hO := MOKn h.1 (by omega) hS.1
  have e13 : ga σ 72 13 = S 0 13 := h.1 13 (by omega) (by omega)
  have e28 : ga σ 72 28 = S 0 28 := h.1 28 (by omega) (by omega)
  refine Cal_ex (ls := [.inr (.inr (.inl 71)), .inl o, .inl l]) rfl mna_164 mml_164 mhl_164 rfl rfl ?_
  unfold fTakes
  by_cases h1 : 0 ≤ o ∧ o < ga σ 72 28
  · by_cases h2 : 0 ≤ l ∧ l < ga σ 72 13
    · have h1' : 0 ≤ o ∧ o < S 0 28 := by omega
      have h2' : 0 ≤ l ∧ l < S 0 13 := by omega
      have bt := tkM_b hO h2 h1
      rw [if_pos ⟨h1', h2'⟩, ← tkM_G h.1 (by omega) hS.1 h2' h1']
      simp (disch := first | with_reducible assumption | omega | exact ga_in _ _ _ | exact gg_in _ _ _ | (unfold InR; omega) | (unfold InL; omega) | (simp only [shC_71, shC_72, shC_73, shC_74, shC_75, shC_76, shC_77, shC_78, shC_79, shL_72, shL_73, shL_74, shL_75, shL_76, shL_77, shL_78, shL_79]; first | done | omega)) only [q164_0, q164_1, q164_2, q164_5, q164_8, q164_9, q164_10, q164_13, q164_16, q164_17, q164_20, q164_21, q164_22, q164_25, q164_28, q164_29, q164_32, shC_71, shC_72, shC_73, shC_74, shC_75, shC_76, shC_77, shC_78, shC_79, shL_72, shL_73, shL_74, shL_75, shL_76, shL_77, shL_78, shL_79, shR_71_0, shR_71_1, shR_71_2, shR_71_3, shR_71_4, shR_71_5, shR_71_8, shR_71_15, k122 hO.1, k123 hO.2.1, h1, h2, k130 M72 hO, pushR_I, pushR_L, pushR_R, pushR_V, InR_gg, InR_ga, InR_wr, InL_gl, InR_b, b01, b01_0, if_true, if_false, not_true_eq_false, not_false_eq_true, and_true, true_and, and_self, Sum.inl.injEq, one0, Bool.false_eq_true]
      exact MO_id h
    · rw [if_neg (fun q => h2 (by have := q.2; unfold hasL at this; omega))]
      simp (disch := first | with_reducible assumption | omega | exact ga_in _ _ _ | exact gg_in _ _ _ | (unfold InR; omega) | (unfold InL; omega) | (simp only [shC_71, shC_72, shC_73, shC_74, shC_75, shC_76, shC_77, shC_78, shC_79, shL_72, shL_73, shL_74, shL_75, shL_76, shL_77, shL_78, shL_79]; first | done | omega)) only [q164_0, q164_1, q164_2, q164_5, q164_8, q164_9, q164_10, q164_13, q164_16, q164_17, q164_20, q164_21, q164_22, q164_25, q164_28, q164_29, q164_32, shC_71, shC_72, shC_73, shC_74, shC_75, shC_76, shC_77, shC_78, shC_79, shL_72, shL_73, shL_74, shL_75, shL_76, shL_77, shL_78, shL_79, shR_71_0, shR_71_1, shR_71_2, shR_71_3, shR_71_4, shR_71_5, shR_71_8, shR_71_15, k122 hO.1, k123 hO.2.1, h1, h2, k118, pushR_I, pushR_L, pushR_R, pushR_V, InR_gg, InR_ga, InR_wr, InL_gl, InR_b, b01, b01_0, if_true, if_false, not_true_eq_false, not_false_eq_true, and_true, true_and, and_self, Sum.inl.injEq, one0, Bool.false_eq_true]
      exact MO_bad h
  · rw [if_neg (fun q => h1 (by have := q.1; unfold hasO at this; omega))]
    simp (disch := first | with_reducible assumption | omega | exact ga_in _ _ _ | exact gg_in _ _ _ | (unfold InR; omega) | (unfold InL; omega) | (simp only [shC_71, shC_72, shC_73, shC_74, shC_75, shC_76, shC_77, shC_78, shC_79, shL_72, shL_73, shL_74, shL_75, shL_76, shL_77, shL_78, shL_79]; first | done | omega)) only [q164_0, q164_1, q164_2, q164_5, q164_8, q164_9, q164_10, q164_13, q164_16, q164_17, q164_20, q164_21, q164_22, q164_25, q164_28, q164_29, q164_32, shC_71, shC_72, shC_73, shC_74, shC_75, shC_76, shC_77, shC_78, shC_79, shL_72, shL_73, shL_74, shL_75, shL_76, shL_77, shL_78, shL_79, shR_71_0, shR_71_1, shR_71_2, shR_71_3, shR_71_4, shR_71_5, shR_71_8, shR_71_15, k123 hO.2.1, h1, k118, pushR_I, pushR_L, pushR_R, pushR_V, InR_gg, InR_ga, InR_wr, InL_gl, InR_b, b01, b01_0, if_true, if_false, not_true_eq_false, not_false_eq_true, and_true, true_and, and_self, Sum.inl.injEq, one0, Bool.false_eq_true]
    exact MO_bad h
theorem o165 (h : MR σ S) (hS : SOK S) {o n : Int} (ho : InR o) (hn : InR n) : CalE (d + 20) 165 [.inr (.inr (.inl 71)), .inl o, .inl n] σ (OPM σ (fThen S o n)) := by
  have hO := MOKn h.1 (by omega) hS.1
  have e28 : ga σ 72 28 = S 0 28 := h.1 28 (by omega) (by omega)
  have g28 := hS.1.2.1
  have c221 : ((221 : Nat) : Int) = 221 := rfl
  refine Cal_ex (ls := [.inr (.inr (.inl 71)), .inl o, .inl n]) rfl mna_165 mml_165 mhl_165 rfl rfl ?_
  unfold fThen
  by_cases h1 : 0 ≤ o ∧ o < ga σ 72 28
  · by_cases h2 : 0 ≤ n ∧ n ≤ 60
    · have h1' : 0 ≤ o ∧ o < S 0 28 := by omega
      have a2 : ga σ 72 (1 + o) = S 0 (1 + o) := h.1 (1 + o) (by omega) (by omega)
      have b2 := (hS.1.2.2.2.2.1 o h1'.1 h1'.2).2
      rw [if_pos ⟨h1', h2⟩, ← a2]
      unfold coI
      by_cases c : 7 * n < ga σ 72 (1 + o)
      · have c' : ¬ ga σ 72 (1 + o) ≤ 7 * n := by omega
        rw [if_pos c]
        simp (disch := first | with_reducible assumption | omega | exact ga_in _ _ _ | exact gg_in _ _ _ | (unfold InR; omega) | (unfold InL; omega) | (simp only [shC_71, shC_72, shC_73, shC_74, shC_75, shC_76, shC_77, shC_78, shC_79, shL_72, shL_73, shL_74, shL_75, shL_76, shL_77, shL_78, shL_79]; first | done | omega)) only [q165_0, q165_1, q165_2, q165_5, q165_8, q165_9, q165_10, q165_12, q165_15, q165_18, q165_19, q165_22, q165_23, q165_24, q165_27, q165_28, q165_29, q165_30, q165_31, q165_33, q165_34, q165_35, q165_38, q165_39, q165_42, q165_43, q165_44, q165_45, q165_46, q165_48, q165_49, q165_50, q165_51, q165_54, q165_55, shC_71, shC_72, shC_73, shC_74, shC_75, shC_76, shC_77, shC_78, shC_79, shL_72, shL_73, shL_74, shL_75, shL_76, shL_77, shL_78, shL_79, shR_71_0, shR_71_1, shR_71_2, shR_71_3, shR_71_4, shR_71_5, shR_71_8, shR_71_15, c221, k123 hO.2.1, k116, h1, h2, c', pushR_I, pushR_L, pushR_R, pushR_V, InR_gg, InR_ga, InR_wr, InL_gl, InR_b, b01, b01_0, if_true, if_false, not_true_eq_false, not_false_eq_true, and_true, true_and, and_self, Sum.inl.injEq, one0, Bool.false_eq_true]
        exact MO_id h
      · have c' : ga σ 72 (1 + o) ≤ 7 * n := by omega
        rw [if_neg c]
        simp (disch := first | with_reducible assumption | omega | exact ga_in _ _ _ | exact gg_in _ _ _ | (unfold InR; omega) | (unfold InL; omega) | (simp only [shC_71, shC_72, shC_73, shC_74, shC_75, shC_76, shC_77, shC_78, shC_79, shL_72, shL_73, shL_74, shL_75, shL_76, shL_77, shL_78, shL_79]; first | done | omega)) only [q165_0, q165_1, q165_2, q165_5, q165_8, q165_9, q165_10, q165_12, q165_15, q165_18, q165_19, q165_22, q165_23, q165_24, q165_27, q165_28, q165_29, q165_30, q165_31, q165_33, q165_34, q165_35, q165_38, q165_39, q165_42, q165_43, q165_44, q165_45, q165_46, q165_48, q165_49, q165_50, q165_51, q165_54, q165_55, shC_71, shC_72, shC_73, shC_74, shC_75, shC_76, shC_77, shC_78, shC_79, shL_72, shL_73, shL_74, shL_75, shL_76, shL_77, shL_78, shL_79, shR_71_0, shR_71_1, shR_71_2, shR_71_3, shR_71_4, shR_71_5, shR_71_8, shR_71_15, c221, k123 hO.2.1, k116, h1, h2, c', pushR_I, pushR_L, pushR_R, pushR_V, InR_gg, InR_ga, InR_wr, InL_gl, InR_b, b01, b01_0, if_true, if_false, not_true_eq_false, not_false_eq_true, and_true, true_and, and_self, Sum.inl.injEq, one0, Bool.false_eq_true]
        exact MO_id h
    · rw [if_neg (fun q => h2 q.2)]
      simp (disch := first | with_reducible assumption | omega | exact ga_in _ _ _ | exact gg_in _ _ _ | (unfold InR; omega) | (unfold InL; omega) | (simp only [shC_71, shC_72, shC_73, shC_74, shC_75, shC_76, shC_77, shC_78, shC_79, shL_72, shL_73, shL_74, shL_75, shL_76, shL_77, shL_78, shL_79]; first | done | omega)) only [q165_0, q165_1, q165_2, q165_5, q165_8, q165_9, q165_10, q165_12, q165_15, q165_18, q165_19, q165_22, q165_23, q165_24, q165_27, q165_28, q165_29, q165_30, q165_31, q165_33, q165_34, q165_35, q165_38, q165_39, q165_42, q165_43, q165_44, q165_45, q165_46, q165_48, q165_49, q165_50, q165_51, q165_54, q165_55, shC_71, shC_72, shC_73, shC_74, shC_75, shC_76, shC_77, shC_78, shC_79, shL_72, shL_73, shL_74, shL_75, shL_76, shL_77, shL_78, shL_79, shR_71_0, shR_71_1, shR_71_2, shR_71_3, shR_71_4, shR_71_5, shR_71_8, shR_71_15, k123 hO.2.1, k116, h1, h2, k118, pushR_I, pushR_L, pushR_R, pushR_V, InR_gg, InR_ga, InR_wr, InL_gl, InR_b, b01, b01_0, if_true, if_false, not_true_eq_false, not_false_eq_true, and_true, true_and, and_self, Sum.inl.injEq, one0, Bool.false_eq_true]
      exact MO_bad h
  · rw [if_neg (fun q => h1 (by have := q.1; unfold hasO at this; omega))]
    simp (disch := first | with_reducible assumption | omega | exact ga_in _ _ _ | exact gg_in _ _ _ | (unfold InR; omega) | (unfold InL; omega) | (simp only [shC_71, shC_72, shC_73, shC_74, shC_75, shC_76, shC_77, shC_78, shC_79, shL_72, shL_73, shL_74, shL_75, shL_76, shL_77, shL_78, shL_79]; first | done | omega)) only [q165_0, q165_1, q165_2, q165_5, q165_8, q165_9, q165_10, q165_12, q165_15, q165_18, q165_19, q165_22, q165_23, q165_24, q165_27, q165_28, q165_29, q165_30, q165_31, q165_33, q165_34, q165_35, q165_38, q165_39, q165_42, q165_43, q165_44, q165_45, q165_46, q165_48, q165_49, q165_50, q165_51, q165_54, q165_55, shC_71, shC_72, shC_73, shC_74, shC_75, shC_76, shC_77, shC_78, shC_79, shL_72, shL_73, shL_74, shL_75, shL_76, shL_77, shL_78, shL_79, shR_71_0, shR_71_1, shR_71_2, shR_71_3, shR_71_4, shR_71_5, shR_71_8, shR_71_15, k123 hO.2.1, h1, k118, pushR_I, pushR_L, pushR_R, pushR_V, InR_gg, InR_ga, InR_wr, InL_gl, InR_b, b01, b01_0, if_true, if_false, not_true_eq_false, not_false_eq_true, and_true, true_and, and_self, Sum.inl.injEq, one0, Bool.false_eq_true]
    exact MO_bad h
theorem l166 {o h0 : Int} (ho : 0 ≤ o ∧ o ≤ 4) (eh : ga σ 72 (1 + o) = h0) (hh : 0 ≤ h0 ∧ h0 ≤ 99) : ∀ (n i : Nat), (i : Int) + n = coldV h0 → Wp none (d + 19) 166 15 [.inr (.inr (.inl 71)), .inl o, .inl (i : Int)] [] σ Q = Q (.inl (coldV h0)) σ := by
  have c221 : ((221 : Nat) : Int) = 221 := rfl
  have cb : coldV h0 ≤ 12 := by unfold coldV; split <;> omega
  intro n
  induction n with
  | zero =>
    intro i hi
    have e2 : h0 - 7 * (i : Int) < 20 := by
      have hi' : (i : Int) = coldV h0 := by omega
      unfold coldV at hi'
      split at hi' <;> omega
    have hi' : (i : Int) = coldV h0 := by omega
    simp (disch := first | with_reducible assumption | omega | exact ga_in _ _ _ | exact gg_in _ _ _ | (unfold InR; omega) | (unfold InL; omega) | (simp only [shC_71, shC_72, shC_73, shC_74, shC_75, shC_76, shC_77, shC_78, shC_79, shL_72, shL_73, shL_74, shL_75, shL_76, shL_77, shL_78, shL_79]; first | done | omega)) only [q166_15, q166_16, q166_19, q166_20, q166_21, q166_22, q166_23, q166_25, q166_26, q166_27, q166_28, q166_30, q166_33, q166_39, q166_40, shC_71, shC_72, shC_73, shC_74, shC_75, shC_76, shC_77, shC_78, shC_79, shL_72, shL_73, shL_74, shL_75, shL_76, shL_77, shL_78, shL_79, shR_71_0, shR_71_1, shR_71_2, shR_71_3, shR_71_4, shR_71_5, shR_71_8, shR_71_15, c221, eh, e2, pushR_I, pushR_L, pushR_R, pushR_V, InR_gg, InR_ga, InR_wr, InL_gl, InR_b, b01, b01_0, if_true, if_false, not_true_eq_false, not_false_eq_true, and_true, true_and, and_self, Sum.inl.injEq, one0, Bool.false_eq_true]
    rw [hi']
  | succ n ih =>
    intro i hi
    have e2 : ¬ h0 - 7 * (i : Int) < 20 := by
      unfold coldV at hi
      split at hi <;> omega
    simp (disch := first | with_reducible assumption | omega | exact ga_in _ _ _ | exact gg_in _ _ _ | (unfold InR; omega) | (unfold InL; omega) | (simp only [shC_71, shC_72, shC_73, shC_74, shC_75, shC_76, shC_77, shC_78, shC_79, shL_72, shL_73, shL_74, shL_75, shL_76, shL_77, shL_78, shL_79]; first | done | omega)) only [q166_15, q166_16, q166_19, q166_20, q166_21, q166_22, q166_23, q166_25, q166_26, q166_27, q166_28, q166_30, q166_33, shC_71, shC_72, shC_73, shC_74, shC_75, shC_76, shC_77, shC_78, shC_79, shL_72, shL_73, shL_74, shL_75, shL_76, shL_77, shL_78, shL_79, shR_71_0, shR_71_1, shR_71_2, shR_71_3, shR_71_4, shR_71_5, shR_71_8, shR_71_15, c221, eh, e2, pushR_I, pushR_L, pushR_R, pushR_V, InR_gg, InR_ga, InR_wr, InL_gl, InR_b, b01, b01_0, if_true, if_false, not_true_eq_false, not_false_eq_true, and_true, true_and, and_self, Sum.inl.injEq, one0, Bool.false_eq_true]
    rw [q166_36]
    exact ih (i + 1) (by omega)
theorem o166 (h : MR σ S) (hS : SOK S) {o : Int} (ho : InR o) : CalE (d + 20) 166 [.inr (.inr (.inl 71)), .inl o] σ (OPM σ (fCold S o)) := by
  have hO := MOKn h.1 (by omega) hS.1
  have e28 : ga σ 72 28 = S 0 28 := h.1 28 (by omega) (by omega)
  have g28 := hS.1.2.1
  refine Cal_ex (ls := [.inr (.inr (.inl 71)), .inl o, aU]) rfl mna_166 mml_166 mhl_166 rfl rfl ?_
  unfold fCold
  by_cases h1 : 0 ≤ o ∧ o < ga σ 72 28
  · have h1' : 0 ≤ o ∧ o < S 0 28 := by omega
    have a2 : ga σ 72 (1 + o) = S 0 (1 + o) := h.1 (1 + o) (by omega) (by omega)
    have b2 := (hS.1.2.2.2.2.1 o h1'.1 h1'.2).2
    rw [if_pos h1']
    simp (disch := first | with_reducible assumption | omega | exact ga_in _ _ _ | exact gg_in _ _ _ | (unfold InR; omega) | (unfold InL; omega) | (simp only [shC_71, shC_72, shC_73, shC_74, shC_75, shC_76, shC_77, shC_78, shC_79, shL_72, shL_73, shL_74, shL_75, shL_76, shL_77, shL_78, shL_79]; first | done | omega)) only [q166_0, q166_1, q166_2, q166_5, q166_8, q166_9, q166_12, q166_13, q166_14, shC_71, shC_72, shC_73, shC_74, shC_75, shC_76, shC_77, shC_78, shC_79, shL_72, shL_73, shL_74, shL_75, shL_76, shL_77, shL_78, shL_79, shR_71_0, shR_71_1, shR_71_2, shR_71_3, shR_71_4, shR_71_5, shR_71_8, shR_71_15, k123 hO.2.1, h1, pushR_I, pushR_L, pushR_R, pushR_V, InR_gg, InR_ga, InR_wr, InL_gl, InR_b, b01, b01_0, if_true, if_false, not_true_eq_false, not_false_eq_true, and_true, true_and, and_self, Sum.inl.injEq, one0, Bool.false_eq_true]
    exact (l166 (d := d) (σ := σ) (o := o) (by omega) a2 b2 (coldV (S 0 (1 + o))).toNat 0 (by have : 0 ≤ coldV (S 0 (1 + o)) := by (unfold coldV; split <;> omega)
                                                                                              omega)).mpr (MO_id h)
  · rw [if_neg (fun q => h1 (by unfold hasO at q; omega))]
    simp (disch := first | with_reducible assumption | omega | exact ga_in _ _ _ | exact gg_in _ _ _ | (unfold InR; omega) | (unfold InL; omega) | (simp only [shC_71, shC_72, shC_73, shC_74, shC_75, shC_76, shC_77, shC_78, shC_79, shL_72, shL_73, shL_74, shL_75, shL_76, shL_77, shL_78, shL_79]; first | done | omega)) only [q166_0, q166_1, q166_2, q166_5, q166_8, q166_9, q166_12, q166_13, q166_14, shC_71, shC_72, shC_73, shC_74, shC_75, shC_76, shC_77, shC_78, shC_79, shL_72, shL_73, shL_74, shL_75, shL_76, shL_77, shL_78, shL_79, shR_71_0, shR_71_1, shR_71_2, shR_71_3, shR_71_4, shR_71_5, shR_71_8, shR_71_15, k123 hO.2.1, h1, k118, pushR_I, pushR_L, pushR_R, pushR_V, InR_gg, InR_ga, InR_wr, InL_gl, InR_b, b01, b01_0, if_true, if_false, not_true_eq_false, not_false_eq_true, and_true, true_and, and_self, Sum.inl.injEq, one0, Bool.false_eq_true]
    exact MO_bad h
theorem RW_tab5 (h : RW σ 72 221 g) {z b a c e f x : Int} (hz : 0 ≤ z ∧ 0 ≤ b + 5 * g z ∧ b + 5 * g z + 5 ≤ 221) (hzb : z < b + 5 * g z ∨ b + 5 * g z + 5 ≤ z) (h99 : 0 ≤ g z ∧ g z ≤ 99) (ha : InR a) (hc : InR c) (he : InR e) (hf : InR f) (hx : InR x) :
    RW (ua (ua (ua (ua (ua (ua σ 72 (b + 5 * g z) a) 72 (b + 5 * g z + 1) c) 72 (b + 5 * g z + 2) e) 72 (b + 5 * g z + 3) f) 72 (b + 5 * g z + 4) x) 72 z (g z + 1)) 72 221 (rTab g z b 5 (v5 a c e f x)) := by
  intro i h0 h1
  by_cases cz : i = z
  · subst cz
    rw [ga_ua_eq, rTab_z hzb, wr_id ⟨by omega, by omega⟩]
  · rw [ga_ua_ni _ _ _ _ _ hz.1 h0 cz]
    by_cases ci : b + 5 * g z ≤ i ∧ i < b + 5 * g z + 5
    · rw [rTab_i ci.1 ci.2]
      by_cases q4 : i = b + 5 * g z + 4
      · subst q4
        rw [ga_ua_eq, wr_id hx, show b + 5 * g z + 4 - (b + 5 * g z) = 4 by omega, v5_4]
      rw [ga_ua_ni _ _ _ _ _ (by omega) h0 q4]
      by_cases q3 : i = b + 5 * g z + 3
      · subst q3
        rw [ga_ua_eq, wr_id hf, show b + 5 * g z + 3 - (b + 5 * g z) = 3 by omega, v5_3]
      rw [ga_ua_ni _ _ _ _ _ (by omega) h0 q3]
      by_cases q2 : i = b + 5 * g z + 2
      · subst q2
        rw [ga_ua_eq, wr_id he, show b + 5 * g z + 2 - (b + 5 * g z) = 2 by omega, v5_2]
      rw [ga_ua_ni _ _ _ _ _ (by omega) h0 q2]
      by_cases q1 : i = b + 5 * g z + 1
      · subst q1
        rw [ga_ua_eq, wr_id hc, show b + 5 * g z + 1 - (b + 5 * g z) = 1 by omega, v5_1]
      rw [ga_ua_ni _ _ _ _ _ (by omega) h0 q1]
      have q0 : i = b + 5 * g z := by omega
      subst q0
      rw [ga_ua_eq, wr_id ha, show b + 5 * g z - (b + 5 * g z) = 0 by omega, v5_0]
    · rw [rTab_n (by omega) cz, ga_ua_ni _ _ _ _ _ (by omega) h0 (by omega), ga_ua_ni _ _ _ _ _ (by omega) h0 (by omega), ga_ua_ni _ _ _ _ _ (by omega) h0 (by omega), ga_ua_ni _ _ _ _ _ (by omega) h0 (by omega), ga_ua_ni _ _ _ _ _ (by omega) h0 (by omega)]
      exact h i h0 h1
theorem RW_tab4 (h : RW σ 72 221 g) {z b a c e f x : Int} (hz : 0 ≤ z ∧ 0 ≤ b + 4 * g z ∧ b + 4 * g z + 4 ≤ 221) (hzb : z < b + 4 * g z ∨ b + 4 * g z + 4 ≤ z) (h99 : 0 ≤ g z ∧ g z ≤ 99) (ha : InR a) (hc : InR c) (he : InR e) (hf : InR f) :
    RW (ua (ua (ua (ua (ua σ 72 (b + 4 * g z) a) 72 (b + 4 * g z + 1) c) 72 (b + 4 * g z + 2) e) 72 (b + 4 * g z + 3) f) 72 z (g z + 1)) 72 221 (rTab g z b 4 (v5 a c e f x)) := by
  intro i h0 h1
  by_cases cz : i = z
  · subst cz
    rw [ga_ua_eq, rTab_z hzb, wr_id ⟨by omega, by omega⟩]
  · rw [ga_ua_ni _ _ _ _ _ hz.1 h0 cz]
    by_cases ci : b + 4 * g z ≤ i ∧ i < b + 4 * g z + 4
    · rw [rTab_i ci.1 ci.2]
      by_cases q3 : i = b + 4 * g z + 3
      · subst q3
        rw [ga_ua_eq, wr_id hf, show b + 4 * g z + 3 - (b + 4 * g z) = 3 by omega, v5_3]
      rw [ga_ua_ni _ _ _ _ _ (by omega) h0 q3]
      by_cases q2 : i = b + 4 * g z + 2
      · subst q2
        rw [ga_ua_eq, wr_id he, show b + 4 * g z + 2 - (b + 4 * g z) = 2 by omega, v5_2]
      rw [ga_ua_ni _ _ _ _ _ (by omega) h0 q2]
      by_cases q1 : i = b + 4 * g z + 1
      · subst q1
        rw [ga_ua_eq, wr_id hc, show b + 4 * g z + 1 - (b + 4 * g z) = 1 by omega, v5_1]
      rw [ga_ua_ni _ _ _ _ _ (by omega) h0 q1]
      have q0 : i = b + 4 * g z := by omega
      subst q0
      rw [ga_ua_eq, wr_id ha, show b + 4 * g z - (b + 4 * g z) = 0 by omega, v5_0]
    · rw [rTab_n (by omega) cz, ga_ua_ni _ _ _ _ _ (by omega) h0 (by omega), ga_ua_ni _ _ _ _ _ (by omega) h0 (by omega), ga_ua_ni _ _ _ _ _ (by omega) h0 (by omega), ga_ua_ni _ _ _ _ _ (by omega) h0 (by omega)]
      exact h i h0 h1
end MOPS2
