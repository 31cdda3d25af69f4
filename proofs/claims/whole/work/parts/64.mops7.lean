-- the reference: years, images, counts, digest
section MOPS7
variable {d : Nat} {σ : SG} {S : Nat → Int → Int} {K : AV → SG → Prop} {Q : AV → SG → Prop} {g : Int → Int} {m : Nat}
theorem l194 {G : Int → Int} (hR : RW σ 72 221 G) (hG : GOK G) {N : Int} (hN : N ≤ 60) {w1 : AV} : ∀ (n i : Nat) (x : Int) (g : Int → Int) (τ : SG) (w6 w7 : AV), (i : Int) + n = N → 0 ≤ x ∧ x < 2147483648 → RW τ 74 34 g → GOK g → g 0 ≤ 9999 + i → (g 13 = G 13 ∧ g 28 = G 28) → ONE 74 σ τ →
    (∀ τ' w3 w5 w6 w7, ONE 74 σ τ' → RW τ' 74 34 (rYears n x g) → GOK (rYears n x g) → Wp none (d + 19) 194 121 [.inr (.inr (.inl 71)), w1, .inl N, w3, aU, w5, w6, w7] [] τ' Q) →
    Wp none (d + 19) 194 35 [.inr (.inr (.inl 71)), w1, .inl N, .inr (.inl x), aU, .inl (i : Int), w6, w7] [] τ Q := by
  have G1 := hG.1
  have G2 := hG.2.1
  intro n
  induction n with
  | zero =>
    intro i x g τ w6 w7 hi hx hT hg hd he ho hq
    have e : N ≤ (i : Int) := by omega
    simp (disch := first | with_reducible assumption | omega | exact ga_in _ _ _ | exact gg_in _ _ _ | (unfold InR; omega) | (unfold InL; omega) | (simp only [shC_71, shC_72, shC_73, shC_74, shC_75, shC_76, shC_77, shC_78, shC_79, shL_72, shL_73, shL_74, shL_75, shL_76, shL_77, shL_78, shL_79]; first | done | omega)) only [q194_35, q194_37, q194_38, e, pushR_I, pushR_L, pushR_R, pushR_V, InR_gg, InR_ga, InR_wr, InL_gl, InR_b, b01, b01_0, if_true, if_false, not_true_eq_false, not_false_eq_true, and_true, true_and, and_self, Sum.inl.injEq, one0, Bool.false_eq_true]
    exact hq τ _ _ _ _ ho hT hg
  | succ n ih =>
    intro i x g τ w6 w7 hi hx hT hg hd he ho hq
    have e : ¬ N ≤ (i : Int) := by omega
    have hO := MOKn hT (by omega) hg
    have hrt := RW_other hR ho (by omega)
    have e0 : ga τ 72 13 = g 13 := (hrt 13 (by omega) (by omega)).trans he.1.symm
    have e1 : ga τ 72 28 = g 28 := (hrt 28 (by omega) (by omega)).trans he.2.symm
    have f0 : ga τ 74 13 = g 13 := hT 13 (by omega) (by omega)
    have f1 : ga τ 74 28 = g 28 := hT 28 (by omega) (by omega)
    simp only [rYears] at hq
    have by0 : 0 ≤ (x * 1103515245 + 12345) % 2147483648 ∧ (x * 1103515245 + 12345) % 2147483648 < 2147483648 := by omega
    have bx1 : 0 ≤ x * 1103515245 + 12345 := by omega
    have bx2 : x * 1103515245 + 12345 < 9223372036854775808 := by omega
    generalize hy : (x * 1103515245 + 12345) % 2147483648 = y at *
    have bl : 0 ≤ y / 65536 % 7 ∧ y / 65536 % 7 < 7 := by omega
    have bo : 0 ≤ y / 1048576 % 5 ∧ y / 1048576 % 5 < 5 := by omega
    have bl0 : 0 ≤ y / 65536 ∧ y / 65536 < 2147483648 := by omega
    have bo0 : 0 ≤ y / 1048576 ∧ y / 1048576 < 2147483648 := by omega
    generalize hl : y / 65536 % 7 = l at *
    generalize ho2 : y / 1048576 % 5 = o at *
    have next : ∀ (h : Int → Int) (υ : SG), RW υ 74 34 h → GOK h → h 0 = g 0 → (h 13 = G 13 ∧ h 28 = G 28) → ONE 74 σ υ → (∀ τ' w3 w5 w6 w7, ONE 74 σ τ' → RW τ' 74 34 (rYears n y (rDay h)) → GOK (rYears n y (rDay h)) → Wp none (d + 19) 194 121 [.inr (.inr (.inl 71)), w1, .inl N, w3, aU, w5, w6, w7] [] τ' Q) →
        Wp none (d + 19) 194 108 [.inr (.inr (.inl 71)), w1, .inl N, .inr (.inl y), aU, .inl (i : Int), .inl l, .inl o] [] υ Q := fun h υ hTh hGh h0 heh hoh hqh => by
      have h3 := hGh.2.2.1
      simp (disch := first | with_reducible assumption | omega | exact ga_in _ _ _ | exact gg_in _ _ _ | (unfold InR; omega) | (unfold InL; omega) | (simp only [shC_71, shC_72, shC_73, shC_74, shC_75, shC_76, shC_77, shC_78, shC_79, shL_72, shL_73, shL_74, shL_75, shL_76, shL_77, shL_78, shL_79]; first | done | omega)) only [q194_108, q194_109, q194_112, q194_115, shC_71, shC_72, shC_73, shC_74, shC_75, shC_76, shC_77, shC_78, shC_79, shL_72, shL_73, shL_74, shL_75, shL_76, shL_77, shL_78, shL_79, shR_71_0, shR_71_1, shR_71_2, shR_71_3, shR_71_4, shR_71_5, shR_71_8, shR_71_15, k133 M74, pushR_I, pushR_L, pushR_R, pushR_V, InR_gg, InR_ga, InR_wr, InL_gl, InR_b, b01, b01_0, if_true, if_false, not_true_eq_false, not_false_eq_true, and_true, true_and, and_self, Sum.inl.injEq, one0, Bool.false_eq_true]
      rw [q194_118]
      exact ih (i + 1) y (rDay h) (dayM υ 74) _ _ (by omega) by0 (RW_day hTh (by omega) ⟨by omega, by omega⟩) (GOK_day hGh (by omega)) (by rw [rDay_0]; omega) ⟨by rw [rDay_hi (by omega)]; exact heh.1, by rw [rDay_hi (by omega)]; exact heh.2⟩ (ONE_trans hoh day_one) hqh
    by_cases c1 : 0 ≤ l ∧ l < ga τ 72 13
    · by_cases c2 : 0 ≤ o ∧ o < ga τ 72 28
      · have c1' : 0 ≤ l ∧ l < g 13 := by omega
        have c2' : 0 ≤ o ∧ o < g 28 := by omega
        rw [if_pos ⟨c1', c2'⟩] at hq
        simp (disch := first | with_reducible assumption | omega | exact ga_in _ _ _ | exact gg_in _ _ _ | (unfold InR; omega) | (unfold InL; omega) | (simp only [shC_71, shC_72, shC_73, shC_74, shC_75, shC_76, shC_77, shC_78, shC_79, shL_72, shL_73, shL_74, shL_75, shL_76, shL_77, shL_78, shL_79]; first | done | omega)) only [q194_35, q194_37, q194_38, q194_41, q194_42, q194_45, q194_46, q194_49, q194_50, q194_53, q194_54, q194_55, q194_56, q194_59, q194_60, q194_63, q194_64, q194_65, q194_67, q194_68, q194_71, q194_72, q194_75, q194_76, q194_77, q194_79, q194_80, q194_82, q194_85, q194_88, q194_89, q194_91, q194_94, q194_97, q194_98, q194_101, q194_103, q194_105, shC_71, shC_72, shC_73, shC_74, shC_75, shC_76, shC_77, shC_78, shC_79, shL_72, shL_73, shL_74, shL_75, shL_76, shL_77, shL_78, shL_79, shR_71_0, shR_71_1, shR_71_2, shR_71_3, shR_71_4, shR_71_5, shR_71_8, shR_71_15, e, hy, hl, ho2, k122 (σ := τ) (by omega), k123 (σ := τ) (by omega), c1, c2, k132 M74 hO, pushR_I, pushR_L, pushR_R, pushR_V, InR_gg, InR_ga, InR_wr, InL_gl, InR_b, b01, b01_0, if_true, if_false, not_true_eq_false, not_false_eq_true, and_true, true_and, and_self, Sum.inl.injEq, one0, Bool.false_eq_true]
        refine next _ _ (RW_say hT (by omega) hg c1' c2') (GOK_say hg c1' c2') ?_ ?_ (ONE_trans ho say_one) hq
        · unfold rSay
          rw [if_neg (by omega), if_neg (by omega)]
        · unfold rSay
          rw [if_neg (by omega), if_neg (by omega), if_neg (by omega), if_neg (by omega)]
          exact he
      · rw [if_neg (fun q => c2 (by have := q.2; omega))] at hq
        simp (disch := first | with_reducible assumption | omega | exact ga_in _ _ _ | exact gg_in _ _ _ | (unfold InR; omega) | (unfold InL; omega) | (simp only [shC_71, shC_72, shC_73, shC_74, shC_75, shC_76, shC_77, shC_78, shC_79, shL_72, shL_73, shL_74, shL_75, shL_76, shL_77, shL_78, shL_79]; first | done | omega)) only [q194_35, q194_37, q194_38, q194_41, q194_42, q194_45, q194_46, q194_49, q194_50, q194_53, q194_54, q194_55, q194_56, q194_59, q194_60, q194_63, q194_64, q194_65, q194_67, q194_68, q194_71, q194_72, q194_75, q194_76, q194_77, q194_79, q194_80, q194_82, q194_85, q194_88, q194_89, q194_91, q194_94, q194_97, q194_98, q194_101, q194_103, q194_105, shC_71, shC_72, shC_73, shC_74, shC_75, shC_76, shC_77, shC_78, shC_79, shL_72, shL_73, shL_74, shL_75, shL_76, shL_77, shL_78, shL_79, shR_71_0, shR_71_1, shR_71_2, shR_71_3, shR_71_4, shR_71_5, shR_71_8, shR_71_15, e, hy, hl, ho2, k122 (σ := τ) (by omega), k123 (σ := τ) (by omega), c1, c2, pushR_I, pushR_L, pushR_R, pushR_V, InR_gg, InR_ga, InR_wr, InL_gl, InR_b, b01, b01_0, if_true, if_false, not_true_eq_false, not_false_eq_true, and_true, true_and, and_self, Sum.inl.injEq, one0, Bool.false_eq_true]
        exact next _ _ hT hg rfl he ho hq
    · rw [if_neg (fun q => c1 (by have := q.1; omega))] at hq
      simp (disch := first | with_reducible assumption | omega | exact ga_in _ _ _ | exact gg_in _ _ _ | (unfold InR; omega) | (unfold InL; omega) | (simp only [shC_71, shC_72, shC_73, shC_74, shC_75, shC_76, shC_77, shC_78, shC_79, shL_72, shL_73, shL_74, shL_75, shL_76, shL_77, shL_78, shL_79]; first | done | omega)) only [q194_35, q194_37, q194_38, q194_41, q194_42, q194_45, q194_46, q194_49, q194_50, q194_53, q194_54, q194_55, q194_56, q194_59, q194_60, q194_63, q194_64, q194_65, q194_67, q194_68, q194_71, q194_72, q194_75, q194_76, q194_77, q194_79, q194_80, q194_82, q194_85, q194_88, q194_89, q194_91, q194_94, q194_97, q194_98, q194_101, q194_103, q194_105, shC_71, shC_72, shC_73, shC_74, shC_75, shC_76, shC_77, shC_78, shC_79, shL_72, shL_73, shL_74, shL_75, shL_76, shL_77, shL_78, shL_79, shR_71_0, shR_71_1, shR_71_2, shR_71_3, shR_71_4, shR_71_5, shR_71_8, shR_71_15, e, hy, hl, ho2, k122 (σ := τ) (by omega), c1, pushR_I, pushR_L, pushR_R, pushR_V, InR_gg, InR_ga, InR_wr, InL_gl, InR_b, b01, b01_0, if_true, if_false, not_true_eq_false, not_false_eq_true, and_true, true_and, and_self, Sum.inl.injEq, one0, Bool.false_eq_true]
      exact next _ _ hT hg rfl he ho hq
theorem o194 (h : MR σ S) (hS : SOK S) {x n : Int} (hx : InR x) (hn : InR n) : CalE (d + 20) 194 [.inr (.inr (.inl 71)), .inl x, .inl n] σ (OPM σ (fYears S x n)) := by
  refine Cal_ex (ls := [.inr (.inr (.inl 71)), .inl x, .inl n, aU, aU, aU, aU, aU]) rfl mna_194 mml_194 mhl_194 rfl rfl ?_
  unfold fYears
  by_cases h1 : 0 ≤ x ∧ x ≤ 999999
  · by_cases h2 : 0 ≤ n ∧ n ≤ 60
    · rw [if_pos ⟨h1, h2⟩]
      simp (disch := first | with_reducible assumption | omega | exact ga_in _ _ _ | exact gg_in _ _ _ | (unfold InR; omega) | (unfold InL; omega) | (simp only [shC_71, shC_72, shC_73, shC_74, shC_75, shC_76, shC_77, shC_78, shC_79, shL_72, shL_73, shL_74, shL_75, shL_76, shL_77, shL_78, shL_79]; first | done | omega)) only [q194_0, q194_1, q194_2, q194_4, q194_7, q194_10, q194_11, q194_12, q194_14, q194_17, q194_20, q194_21, q194_24, q194_25, q194_26, q194_27, q194_28, q194_29, q194_32, q194_33, shC_71, shC_72, shC_73, shC_74, shC_75, shC_76, shC_77, shC_78, shC_79, shL_72, shL_73, shL_74, shL_75, shL_76, shL_77, shL_78, shL_79, shR_71_0, shR_71_1, shR_71_2, shR_71_3, shR_71_4, shR_71_5, shR_71_8, shR_71_15, k116, h1, h2, k137, pushR_I, pushR_L, pushR_R, pushR_V, InR_gg, InR_ga, InR_wr, InL_gl, InR_b, b01, b01_0, if_true, if_false, not_true_eq_false, not_false_eq_true, and_true, true_and, and_self, Sum.inl.injEq, one0, Bool.false_eq_true]
      refine l194 (d := d) (σ := σ) h.1 hS.1 h2.2 n.toNat 0 x (S 0) (asIt σ) _ _ (by omega) (by omega) (RW_asIt h.1) hS.1 (by have := hS.2.2.2.1.1; omega) ⟨rfl, rfl⟩ asIt_one (fun τ' w3 w5 w6 w7 ho hT hG => ?_)
      have f1 : ga τ' 74 28 = rYears n.toNat x (S 0) 28 := hT 28 (by omega) (by omega)
      have g28 := hG.2.1
      have hb := hotG_b hG
      simp (disch := first | with_reducible assumption | omega | exact ga_in _ _ _ | exact gg_in _ _ _ | (unfold InR; omega) | (unfold InL; omega) | (simp only [shC_71, shC_72, shC_73, shC_74, shC_75, shC_76, shC_77, shC_78, shC_79, shL_72, shL_73, shL_74, shL_75, shL_76, shL_77, shL_78, shL_79]; first | done | omega)) only [q194_121, q194_122, q194_125, q194_128, shC_71, shC_72, shC_73, shC_74, shC_75, shC_76, shC_77, shC_78, shC_79, shL_72, shL_73, shL_74, shL_75, shL_76, shL_77, shL_78, shL_79, shR_71_0, shR_71_1, shR_71_2, shR_71_3, shR_71_4, shR_71_5, shR_71_8, shR_71_15, k134 (σ := τ') M74 (by omega), RW_hot hT (by omega) hG, pushR_I, pushR_L, pushR_R, pushR_V, InR_gg, InR_ga, InR_wr, InL_gl, InR_b, b01, b01_0, if_true, if_false, not_true_eq_false, not_false_eq_true, and_true, true_and, and_self, Sum.inl.injEq, one0, Bool.false_eq_true]
      exact MO_74 h ho
    · rw [if_neg (fun q => h2 q.2)]
      simp (disch := first | with_reducible assumption | omega | exact ga_in _ _ _ | exact gg_in _ _ _ | (unfold InR; omega) | (unfold InL; omega) | (simp only [shC_71, shC_72, shC_73, shC_74, shC_75, shC_76, shC_77, shC_78, shC_79, shL_72, shL_73, shL_74, shL_75, shL_76, shL_77, shL_78, shL_79]; first | done | omega)) only [q194_0, q194_1, q194_2, q194_4, q194_7, q194_10, q194_11, q194_12, q194_14, q194_17, q194_20, q194_21, q194_24, q194_25, q194_26, q194_27, q194_28, q194_29, q194_32, q194_33, shC_71, shC_72, shC_73, shC_74, shC_75, shC_76, shC_77, shC_78, shC_79, shL_72, shL_73, shL_74, shL_75, shL_76, shL_77, shL_78, shL_79, shR_71_0, shR_71_1, shR_71_2, shR_71_3, shR_71_4, shR_71_5, shR_71_8, shR_71_15, k116, h1, h2, k118, pushR_I, pushR_L, pushR_R, pushR_V, InR_gg, InR_ga, InR_wr, InL_gl, InR_b, b01, b01_0, if_true, if_false, not_true_eq_false, not_false_eq_true, and_true, true_and, and_self, Sum.inl.injEq, one0, Bool.false_eq_true]
      exact MO_bad h
  · rw [if_neg (fun q => h1 q.1)]
    simp (disch := first | with_reducible assumption | omega | exact ga_in _ _ _ | exact gg_in _ _ _ | (unfold InR; omega) | (unfold InL; omega) | (simp only [shC_71, shC_72, shC_73, shC_74, shC_75, shC_76, shC_77, shC_78, shC_79, shL_72, shL_73, shL_74, shL_75, shL_76, shL_77, shL_78, shL_79]; first | done | omega)) only [q194_0, q194_1, q194_2, q194_4, q194_7, q194_10, q194_11, q194_12, q194_14, q194_17, q194_20, q194_21, q194_24, q194_25, q194_26, q194_27, q194_28, q194_29, q194_32, q194_33, shC_71, shC_72, shC_73, shC_74, shC_75, shC_76, shC_77, shC_78, shC_79, shL_72, shL_73, shL_74, shL_75, shL_76, shL_77, shL_78, shL_79, shR_71_0, shR_71_1, shR_71_2, shR_71_3, shR_71_4, shR_71_5, shR_71_8, shR_71_15, k116, h1, k118, pushR_I, pushR_L, pushR_R, pushR_V, InR_gg, InR_ga, InR_wr, InL_gl, InR_b, b01, b01_0, if_true, if_false, not_true_eq_false, not_false_eq_true, and_true, true_and, and_self, Sum.inl.injEq, one0, Bool.false_eq_true]
    exact MO_bad h
theorem o195 (h : MR σ S) (hS : SOK S) {w : Int} (hw : InR w) : CalE (d + 20) 195 [.inr (.inr (.inl 71)), .inl w] σ (OPML σ (fPart S w)) := by
  obtain ⟨c11, c12⟩ := h.2.2.2.2.2.2
  refine Cal_ex (ls := [.inr (.inr (.inl 71)), .inl w]) rfl mna_195 mml_195 mhl_195 rfl rfl ?_
  unfold fPart
  by_cases h0 : w = 0
  · subst h0
    rw [if_pos rfl]
    simp (disch := first | with_reducible assumption | omega | exact ga_in _ _ _ | exact gg_in _ _ _ | (unfold InR; omega) | (unfold InL; omega) | (simp only [shC_71, shC_72, shC_73, shC_74, shC_75, shC_76, shC_77, shC_78, shC_79, shL_72, shL_73, shL_74, shL_75, shL_76, shL_77, shL_78, shL_79]; first | done | omega)) only [q195_0, q195_1, q195_4, q195_5, q195_8, q195_11, q195_12, q195_13, q195_16, q195_17, q195_20, q195_23, q195_24, q195_27, q195_28, shC_71, shC_72, shC_73, shC_74, shC_75, shC_76, shC_77, shC_78, shC_79, shL_72, shL_73, shL_74, shL_75, shL_76, shL_77, shL_78, shL_79, shR_71_0, shR_71_1, shR_71_2, shR_71_3, shR_71_4, shR_71_5, shR_71_8, shR_71_15, pushR_I, pushR_L, pushR_R, pushR_V, InR_gg, InR_ga, InR_wr, InL_gl, InR_b, b01, b01_0, if_true, if_false, not_true_eq_false, not_false_eq_true, and_true, true_and, and_self, Sum.inl.injEq, one0, Bool.false_eq_true]
    exact ⟨⟨_, rfl, by rw [c11]; rw [← c11]; exact wrL_id (by rw [InL_gl]; trivial)⟩, h, MLO_refl σ⟩
  · by_cases h1 : w = 1
    · subst h1
      rw [if_neg h0, if_pos rfl]
      simp (disch := first | with_reducible assumption | omega | exact ga_in _ _ _ | exact gg_in _ _ _ | (unfold InR; omega) | (unfold InL; omega) | (simp only [shC_71, shC_72, shC_73, shC_74, shC_75, shC_76, shC_77, shC_78, shC_79, shL_72, shL_73, shL_74, shL_75, shL_76, shL_77, shL_78, shL_79]; first | done | omega)) only [q195_0, q195_1, q195_4, q195_5, q195_8, q195_11, q195_12, q195_13, q195_16, q195_17, q195_20, q195_23, q195_24, q195_27, q195_28, shC_71, shC_72, shC_73, shC_74, shC_75, shC_76, shC_77, shC_78, shC_79, shL_72, shL_73, shL_74, shL_75, shL_76, shL_77, shL_78, shL_79, shR_71_0, shR_71_1, shR_71_2, shR_71_3, shR_71_4, shR_71_5, shR_71_8, shR_71_15, pushR_I, pushR_L, pushR_R, pushR_V, InR_gg, InR_ga, InR_wr, InL_gl, InR_b, b01, b01_0, if_true, if_false, not_true_eq_false, not_false_eq_true, and_true, true_and, and_self, Sum.inl.injEq, one0, Bool.false_eq_true]
      exact ⟨⟨_, rfl, by rw [c12]; rw [← c12]; exact wrL_id (by rw [InL_gl]; trivial)⟩, h, MLO_refl σ⟩
    · rw [if_neg h0, if_neg h1]
      simp (disch := first | with_reducible assumption | omega | exact ga_in _ _ _ | exact gg_in _ _ _ | (unfold InR; omega) | (unfold InL; omega) | (simp only [shC_71, shC_72, shC_73, shC_74, shC_75, shC_76, shC_77, shC_78, shC_79, shL_72, shL_73, shL_74, shL_75, shL_76, shL_77, shL_78, shL_79]; first | done | omega)) only [q195_0, q195_1, q195_4, q195_5, q195_8, q195_11, q195_12, q195_13, q195_16, q195_17, q195_20, q195_23, q195_24, q195_27, q195_28, shC_71, shC_72, shC_73, shC_74, shC_75, shC_76, shC_77, shC_78, shC_79, shL_72, shL_73, shL_74, shL_75, shL_76, shL_77, shL_78, shL_79, shR_71_0, shR_71_1, shR_71_2, shR_71_3, shR_71_4, shR_71_5, shR_71_8, shR_71_15, h0, h1, k118, pushR_I, pushR_L, pushR_R, pushR_V, InR_gg, InR_ga, InR_wr, InL_gl, InR_b, b01, b01_0, if_true, if_false, not_true_eq_false, not_false_eq_true, and_true, true_and, and_self, Sum.inl.injEq, one0, Bool.false_eq_true]
      exact ⟨⟨_, rfl, rfl⟩, MR_bmp h (by omega), MLO_one (ONE_ua (ONE_refl 77 σ)) (by omega)⟩
def imgM (σ : SG) (i : Int) : SG := ua (mR σ 75 (221 * i.toNat) 221 (fun x => ga σ 72 (0 + (x : Int)))) 76 i 1
theorem o196 (h : MR σ S) (hS : SOK S) {i : Int} (hi : InR i) : CalE (d + 20) 196 [.inr (.inr (.inl 71)), .inl i] σ (OPM σ (fImage S i)) := by
  refine Cal_ex (ls := [.inr (.inr (.inl 71)), .inl i]) rfl mna_196 mml_196 mhl_196 rfl rfl ?_
  unfold fImage
  by_cases h1 : 0 ≤ i ∧ i ≤ 1
  · rw [if_pos h1]
    have K1 : ∀ K, CalK (d + 19) 136 [.inr (.inr (.inl 72)), .inl 0, .inr (.inr (.inl 75)), .inl (221 * i), .inl 221] σ K = K aU (mR σ 75 (221 * i.toNat) 221 (fun x => ga σ 72 (0 + (x : Int)))) := fun K => by
      rw [show (221 : Int) * i = ((221 * i.toNat : Nat) : Int) by omega]
      exact k136 (d := d + 18) (f := 72) (t := 75) (i := 0) (j := 221 * i.toNat) (N := 221) shC_72 shC_75 (by rw [shL_72]; omega) (by rw [shL_75]; omega) (Or.inl (by omega))
    have c2 : ((2 : Nat) : Int) = 2 := rfl
    simp (disch := first | with_reducible assumption | omega | exact ga_in _ _ _ | exact gg_in _ _ _ | (unfold InR; omega) | (unfold InL; omega) | (simp only [shC_71, shC_72, shC_73, shC_74, shC_75, shC_76, shC_77, shC_78, shC_79, shL_72, shL_73, shL_74, shL_75, shL_76, shL_77, shL_78, shL_79]; first | done | omega)) only [q196_0, q196_1, q196_2, q196_3, q196_6, q196_9, q196_10, q196_13, q196_14, q196_15, q196_18, q196_19, q196_20, q196_23, q196_26, q196_27, q196_28, q196_31, q196_34, q196_35, q196_38, q196_39, q196_40, q196_41, q196_42, shC_71, shC_72, shC_73, shC_74, shC_75, shC_76, shC_77, shC_78, shC_79, shL_72, shL_73, shL_74, shL_75, shL_76, shL_77, shL_78, shL_79, shR_71_0, shR_71_1, shR_71_2, shR_71_3, shR_71_4, shR_71_5, shR_71_8, shR_71_15, c2, k116, h1, K1, pushR_I, pushR_L, pushR_R, pushR_V, InR_gg, InR_ga, InR_wr, InL_gl, InR_b, b01, b01_0, if_true, if_false, not_true_eq_false, not_false_eq_true, and_true, true_and, and_self, Sum.inl.injEq, one0, Bool.false_eq_true]
    obtain ⟨c1, c2, c3, ⟨c4, c5⟩, ⟨c6, c7⟩, ⟨c8, c9, c10⟩, c11, c12⟩ := h
    have o1 : ∀ a b, ¬ a = 75 → ¬ a = 76 → gg (ua (mR σ 75 (221 * i.toNat) 221 (fun x => ga σ 72 (0 + (x : Int)))) 76 i 1) a b = gg σ a b := fun a b q r => by rw [gg_ua_ne _ _ _ _ _ _ r, gg_mR, if_neg q]
    have i4 : imgS S i 4 i = 1 := by unfold imgS; rw [if_pos ⟨rfl, rfl⟩]
    have i4n : ∀ x, ¬ x = i → imgS S i 4 x = S 4 x := fun x q => by unfold imgS; rw [if_neg (by omega), if_neg (by omega)]
    have in0 : imgS S i 0 = S 0 := by funext x; unfold imgS; rw [if_neg (by omega), if_neg (by omega)]
    have in3 : imgS S i 3 = S 3 := by funext x; unfold imgS; rw [if_neg (by omega), if_neg (by omega)]
    have new : ∀ x : Int, 0 ≤ x → x < 221 → ga (ua (mR σ 75 (221 * i.toNat) 221 (fun x => ga σ 72 (0 + (x : Int)))) 76 i 1) 75 (221 * i + x) = S 0 x := fun x q r => by
      rw [ga_ua_ne _ _ _ _ _ _ (by omega), ga_mR _ _ _ _ _ _ (by omega), if_pos rfl, if_pos ⟨by omega, by omega⟩, wr_id (ga_in _ _ _), show (0 + (((221 * i + x).toNat - 221 * i.toNat : Nat) : Int)) = x by omega]
      exact c1 x q r
    have old : ∀ x : Int, 0 ≤ x → (x < 221 * i ∨ 221 * i + 221 ≤ x) → ga (ua (mR σ 75 (221 * i.toNat) 221 (fun x => ga σ 72 (0 + (x : Int)))) 76 i 1) 75 x = ga σ 75 x := fun x q r => by
      rw [ga_ua_ne _ _ _ _ _ _ (by omega), ga_mR _ _ _ _ _ _ q, if_pos rfl, if_neg (by omega)]
    refine ⟨rfl, ?_, ⟨fun a b q => o1 a b (by omega) (by omega), fun a b _ => rfl⟩⟩
    show MR _ (imgS S i)
    unfold MR
    rw [in0, in3, i4n 2 (by omega), i4n 3 (by omega), i4n 4 (by omega), i4n 5 (by omega), i4n 6 (by omega), i4n 7 (by omega)]
    have hc : i = 0 ∨ i = 1 := by omega
    rcases hc with rfl | rfl
    · have in1 : imgS S 0 1 = S 0 := by funext x; unfold imgS; rw [if_neg (by omega), if_pos (by omega)]
      have in2 : imgS S 0 2 = S 2 := by funext x; unfold imgS; rw [if_neg (by omega), if_neg (by omega)]
      rw [in1, in2, i4, i4n 1 (by omega)]
      refine ⟨fun x q r => (o1 72 _ (by omega) (by omega)).trans (c1 x q r), fun _ x q r => ?_, fun z x q r => (old _ (by omega) (by omega)).trans (c3 z x q r), ⟨?_, ?_⟩, ⟨(o1 71 9 (by omega) (by omega)).trans c6, fun x q r => (o1 78 _ (by omega) (by omega)).trans (c7 x q r)⟩, ⟨(o1 77 _ (by omega) (by omega)).trans c8, (o1 77 _ (by omega) (by omega)).trans c9, (o1 77 _ (by omega) (by omega)).trans c10⟩, c11, c12⟩
      · have := new x q r
        rw [show (221 : Int) * 0 + x = x by omega] at this
        exact this
      · exact gg_ug_eq _ _ _ _
      · exact ((gg_ug_ne _ _ _ _ _ _ (by decide)).trans (mR14_gg _ _ _ _ _ (by omega))).trans c5
    · have in1 : imgS S 1 1 = S 1 := by funext x; unfold imgS; rw [if_neg (by omega), if_neg (by omega)]
      have in2 : imgS S 1 2 = S 0 := by funext x; unfold imgS; rw [if_neg (by omega), if_pos (by omega)]
      rw [in1, in2, i4, i4n 0 (by omega)]
      refine ⟨fun x q r => (o1 72 _ (by omega) (by omega)).trans (c1 x q r), fun z x q r => (old _ q (by omega)).trans (c2 z x q r), fun _ x q r => ?_, ⟨?_, ?_⟩, ⟨(o1 71 9 (by omega) (by omega)).trans c6, fun x q r => (o1 78 _ (by omega) (by omega)).trans (c7 x q r)⟩, ⟨(o1 77 _ (by omega) (by omega)).trans c8, (o1 77 _ (by omega) (by omega)).trans c9, (o1 77 _ (by omega) (by omega)).trans c10⟩, c11, c12⟩
      · have := new x q r
        rw [show (221 : Int) * 1 + x = 221 + x by omega] at this
        exact this
      · exact ((gg_ug_ne _ _ _ _ _ _ (by decide)).trans (mR14_gg _ _ _ _ _ (by omega))).trans c4
      · exact gg_ug_eq _ _ _ _
  · rw [if_neg h1]
    simp (disch := first | with_reducible assumption | omega | exact ga_in _ _ _ | exact gg_in _ _ _ | (unfold InR; omega) | (unfold InL; omega) | (simp only [shC_71, shC_72, shC_73, shC_74, shC_75, shC_76, shC_77, shC_78, shC_79, shL_72, shL_73, shL_74, shL_75, shL_76, shL_77, shL_78, shL_79]; first | done | omega)) only [q196_0, q196_1, q196_2, q196_3, q196_6, q196_9, q196_10, q196_13, q196_14, q196_15, q196_18, q196_19, q196_20, q196_23, q196_26, q196_27, q196_28, q196_31, q196_34, q196_35, q196_38, q196_39, q196_40, q196_41, q196_42, shC_71, shC_72, shC_73, shC_74, shC_75, shC_76, shC_77, shC_78, shC_79, shL_72, shL_73, shL_74, shL_75, shL_76, shL_77, shL_78, shL_79, shR_71_0, shR_71_1, shR_71_2, shR_71_3, shR_71_4, shR_71_5, shR_71_8, shR_71_15, k116, h1, k118, pushR_I, pushR_L, pushR_R, pushR_V, InR_gg, InR_ga, InR_wr, InL_gl, InR_b, b01, b01_0, if_true, if_false, not_true_eq_false, not_false_eq_true, and_true, true_and, and_self, Sum.inl.injEq, one0, Bool.false_eq_true]
    exact MO_bad h
theorem o197 (h : MR σ S) (hS : SOK S) {i : Int} (hi : InR i) : CalE (d + 20) 197 [.inr (.inr (.inl 71)), .inl i] σ (OPM σ (fFrom S i)) := by
  refine Cal_ex (ls := [.inr (.inr (.inl 71)), .inl i]) rfl mna_197 mml_197 mhl_197 rfl rfl ?_
  unfold fFrom
  by_cases h1 : 0 ≤ i ∧ i ≤ 1
  · rw [if_pos h1]
    have c2n : ((2 : Nat) : Int) = 2 := rfl
    have hk : ga σ 76 i = S 4 i := by
      have hc : i = 0 ∨ i = 1 := by omega
      rcases hc with rfl | rfl
      · exact h.2.2.2.1.1
      · exact h.2.2.2.1.2
    have hki : InR (S 4 i) := by rw [← hk]; exact ga_in _ _ _
    by_cases h2 : S 4 i = 0
    · rw [if_pos h2]
      simp (disch := first | with_reducible assumption | omega | exact ga_in _ _ _ | exact gg_in _ _ _ | (unfold InR; omega) | (unfold InL; omega) | (simp only [shC_71, shC_72, shC_73, shC_74, shC_75, shC_76, shC_77, shC_78, shC_79, shL_72, shL_73, shL_74, shL_75, shL_76, shL_77, shL_78, shL_79]; first | done | omega)) only [q197_0, q197_1, q197_2, q197_3, q197_6, q197_9, q197_10, q197_13, q197_14, q197_15, q197_18, q197_19, q197_20, q197_23, q197_24, q197_27, q197_28, q197_29, q197_32, q197_35, q197_36, q197_37, q197_38, q197_41, q197_42, q197_45, q197_48, q197_49, shC_71, shC_72, shC_73, shC_74, shC_75, shC_76, shC_77, shC_78, shC_79, shL_72, shL_73, shL_74, shL_75, shL_76, shL_77, shL_78, shL_79, shR_71_0, shR_71_1, shR_71_2, shR_71_3, shR_71_4, shR_71_5, shR_71_8, shR_71_15, c2n, k116, h1, hk, h2, k119, pushR_I, pushR_L, pushR_R, pushR_V, InR_gg, InR_ga, InR_wr, InL_gl, InR_b, b01, b01_0, if_true, if_false, not_true_eq_false, not_false_eq_true, and_true, true_and, and_self, Sum.inl.injEq, one0, Bool.false_eq_true]
      exact MO_no h
    · rw [if_neg h2]
      have K1 : ∀ K, CalK (d + 19) 136 [.inr (.inr (.inl 75)), .inl (221 * i), .inr (.inr (.inl 72)), .inl 0, .inl 221] σ K = K aU (mR σ 72 0 221 (fun x => ga σ 75 (((221 * i.toNat : Nat) : Int) + (x : Int)))) := fun K => by
        rw [show (221 : Int) * i = ((221 * i.toNat : Nat) : Int) by omega]
        exact k136 (d := d + 18) (f := 75) (t := 72) (i := 221 * i.toNat) (j := 0) (N := 221) shC_75 shC_72 (by rw [shL_75]; omega) (by rw [shL_72]; omega) (Or.inl (by omega))
      simp (disch := first | with_reducible assumption | omega | exact ga_in _ _ _ | exact gg_in _ _ _ | (unfold InR; omega) | (unfold InL; omega) | (simp only [shC_71, shC_72, shC_73, shC_74, shC_75, shC_76, shC_77, shC_78, shC_79, shL_72, shL_73, shL_74, shL_75, shL_76, shL_77, shL_78, shL_79]; first | done | omega)) only [q197_0, q197_1, q197_2, q197_3, q197_6, q197_9, q197_10, q197_13, q197_14, q197_15, q197_18, q197_19, q197_20, q197_23, q197_24, q197_27, q197_28, q197_29, q197_32, q197_35, q197_36, q197_37, q197_38, q197_41, q197_42, q197_45, q197_48, q197_49, shC_71, shC_72, shC_73, shC_74, shC_75, shC_76, shC_77, shC_78, shC_79, shL_72, shL_73, shL_74, shL_75, shL_76, shL_77, shL_78, shL_79, shR_71_0, shR_71_1, shR_71_2, shR_71_3, shR_71_4, shR_71_5, shR_71_8, shR_71_15, c2n, k116, h1, hk, h2, K1, pushR_I, pushR_L, pushR_R, pushR_V, InR_gg, InR_ga, InR_wr, InL_gl, InR_b, b01, b01_0, if_true, if_false, not_true_eq_false, not_false_eq_true, and_true, true_and, and_self, Sum.inl.injEq, one0, Bool.false_eq_true]
      refine MO_row h (fun x q r => ?_) (ONE_mR (ONE_refl 72 σ))
      rw [ga_mR _ _ _ _ _ _ q, if_pos rfl, if_pos ⟨by omega, by omega⟩, wr_id (ga_in _ _ _)]
      have hc : i = 0 ∨ i = 1 := by omega
      rcases hc with rfl | rfl
      · have h3 : S 4 0 = 1 := by have := hS.2.2.2.2.1; omega
        rw [if_pos rfl, show (((221 * (0 : Int).toNat : Nat) : Int) + ((x.toNat - 0 : Nat) : Int)) = x by omega]
        exact h.2.1 h3 x q r
      · have h3 : S 4 1 = 1 := by have := hS.2.2.2.2.2.1; omega
        rw [if_neg (by omega), show (((221 * (1 : Int).toNat : Nat) : Int) + ((x.toNat - 0 : Nat) : Int)) = 221 + x by omega]
        exact h.2.2.1 h3 x q r
  · rw [if_neg h1]
    simp (disch := first | with_reducible assumption | omega | exact ga_in _ _ _ | exact gg_in _ _ _ | (unfold InR; omega) | (unfold InL; omega) | (simp only [shC_71, shC_72, shC_73, shC_74, shC_75, shC_76, shC_77, shC_78, shC_79, shL_72, shL_73, shL_74, shL_75, shL_76, shL_77, shL_78, shL_79]; first | done | omega)) only [q197_0, q197_1, q197_2, q197_3, q197_6, q197_9, q197_10, q197_13, q197_14, q197_15, q197_18, q197_19, q197_20, q197_23, q197_24, q197_27, q197_28, q197_29, q197_32, q197_35, q197_36, q197_37, q197_38, q197_41, q197_42, q197_45, q197_48, q197_49, shC_71, shC_72, shC_73, shC_74, shC_75, shC_76, shC_77, shC_78, shC_79, shL_72, shL_73, shL_74, shL_75, shL_76, shL_77, shL_78, shL_79, shR_71_0, shR_71_1, shR_71_2, shR_71_3, shR_71_4, shR_71_5, shR_71_8, shR_71_15, k116, h1, k118, pushR_I, pushR_L, pushR_R, pushR_V, InR_gg, InR_ga, InR_wr, InL_gl, InR_b, b01, b01_0, if_true, if_false, not_true_eq_false, not_false_eq_true, and_true, true_and, and_self, Sum.inl.injEq, one0, Bool.false_eq_true]
    exact MO_bad h
theorem o198 (h : MR σ S) (hS : SOK S) {w : Int} (hw : InR w) : CalE (d + 20) 198 [.inr (.inr (.inl 71)), .inl w] σ (OPM σ (fStatus S w)) := by
  obtain ⟨c8, c9, c10⟩ := h.2.2.2.2.2.1
  have c3n : ((3 : Nat) : Int) = 3 := rfl
  refine Cal_ex (ls := [.inr (.inr (.inl 71)), .inl w]) rfl mna_198 mml_198 mhl_198 rfl rfl ?_
  unfold fStatus
  by_cases h1 : 0 ≤ w ∧ w ≤ 2
  · have hc : w = 0 ∨ w = 1 ∨ w = 2 := by omega
    rcases hc with rfl | rfl | rfl
    · rw [if_pos rfl, ← c8]
      simp (disch := first | with_reducible assumption | omega | exact ga_in _ _ _ | exact gg_in _ _ _ | (unfold InR; omega) | (unfold InL; omega) | (simp only [shC_71, shC_72, shC_73, shC_74, shC_75, shC_76, shC_77, shC_78, shC_79, shL_72, shL_73, shL_74, shL_75, shL_76, shL_77, shL_78, shL_79]; first | done | omega)) only [q198_0, q198_1, q198_2, q198_3, q198_6, q198_9, q198_10, q198_13, q198_14, q198_15, q198_16, q198_17, q198_18, q198_19, q198_20, q198_21, q198_22, q198_25, q198_26, q198_27, shC_71, shC_72, shC_73, shC_74, shC_75, shC_76, shC_77, shC_78, shC_79, shL_72, shL_73, shL_74, shL_75, shL_76, shL_77, shL_78, shL_79, shR_71_0, shR_71_1, shR_71_2, shR_71_3, shR_71_4, shR_71_5, shR_71_8, shR_71_15, c3n, k116, h1, pushR_I, pushR_L, pushR_R, pushR_V, InR_gg, InR_ga, InR_wr, InL_gl, InR_b, b01, b01_0, if_true, if_false, not_true_eq_false, not_false_eq_true, and_true, true_and, and_self, Sum.inl.injEq, one0, Bool.false_eq_true]
      exact MO_id h
    · rw [if_neg (by omega), if_pos rfl, ← c9]
      simp (disch := first | with_reducible assumption | omega | exact ga_in _ _ _ | exact gg_in _ _ _ | (unfold InR; omega) | (unfold InL; omega) | (simp only [shC_71, shC_72, shC_73, shC_74, shC_75, shC_76, shC_77, shC_78, shC_79, shL_72, shL_73, shL_74, shL_75, shL_76, shL_77, shL_78, shL_79]; first | done | omega)) only [q198_0, q198_1, q198_2, q198_3, q198_6, q198_9, q198_10, q198_13, q198_14, q198_15, q198_16, q198_17, q198_18, q198_19, q198_20, q198_21, q198_22, q198_25, q198_26, q198_27, shC_71, shC_72, shC_73, shC_74, shC_75, shC_76, shC_77, shC_78, shC_79, shL_72, shL_73, shL_74, shL_75, shL_76, shL_77, shL_78, shL_79, shR_71_0, shR_71_1, shR_71_2, shR_71_3, shR_71_4, shR_71_5, shR_71_8, shR_71_15, c3n, k116, h1, pushR_I, pushR_L, pushR_R, pushR_V, InR_gg, InR_ga, InR_wr, InL_gl, InR_b, b01, b01_0, if_true, if_false, not_true_eq_false, not_false_eq_true, and_true, true_and, and_self, Sum.inl.injEq, one0, Bool.false_eq_true]
      exact MO_id h
    · rw [if_neg (by omega), if_neg (by omega), if_pos rfl, ← c10]
      simp (disch := first | with_reducible assumption | omega | exact ga_in _ _ _ | exact gg_in _ _ _ | (unfold InR; omega) | (unfold InL; omega) | (simp only [shC_71, shC_72, shC_73, shC_74, shC_75, shC_76, shC_77, shC_78, shC_79, shL_72, shL_73, shL_74, shL_75, shL_76, shL_77, shL_78, shL_79]; first | done | omega)) only [q198_0, q198_1, q198_2, q198_3, q198_6, q198_9, q198_10, q198_13, q198_14, q198_15, q198_16, q198_17, q198_18, q198_19, q198_20, q198_21, q198_22, q198_25, q198_26, q198_27, shC_71, shC_72, shC_73, shC_74, shC_75, shC_76, shC_77, shC_78, shC_79, shL_72, shL_73, shL_74, shL_75, shL_76, shL_77, shL_78, shL_79, shR_71_0, shR_71_1, shR_71_2, shR_71_3, shR_71_4, shR_71_5, shR_71_8, shR_71_15, c3n, k116, h1, pushR_I, pushR_L, pushR_R, pushR_V, InR_gg, InR_ga, InR_wr, InL_gl, InR_b, b01, b01_0, if_true, if_false, not_true_eq_false, not_false_eq_true, and_true, true_and, and_self, Sum.inl.injEq, one0, Bool.false_eq_true]
      exact MO_id h
  · rw [if_neg (by omega), if_neg (by omega), if_neg (by omega)]
    simp (disch := first | with_reducible assumption | omega | exact ga_in _ _ _ | exact gg_in _ _ _ | (unfold InR; omega) | (unfold InL; omega) | (simp only [shC_71, shC_72, shC_73, shC_74, shC_75, shC_76, shC_77, shC_78, shC_79, shL_72, shL_73, shL_74, shL_75, shL_76, shL_77, shL_78, shL_79]; first | done | omega)) only [q198_0, q198_1, q198_2, q198_3, q198_6, q198_9, q198_10, q198_13, q198_14, q198_15, q198_16, q198_17, q198_18, q198_19, q198_20, q198_21, q198_22, q198_25, q198_26, q198_27, shC_71, shC_72, shC_73, shC_74, shC_75, shC_76, shC_77, shC_78, shC_79, shL_72, shL_73, shL_74, shL_75, shL_76, shL_77, shL_78, shL_79, shR_71_0, shR_71_1, shR_71_2, shR_71_3, shR_71_4, shR_71_5, shR_71_8, shR_71_15, c3n, k116, h1, pushR_I, pushR_L, pushR_R, pushR_V, InR_gg, InR_ga, InR_wr, InL_gl, InR_b, b01, b01_0, if_true, if_false, not_true_eq_false, not_false_eq_true, and_true, true_and, and_self, Sum.inl.injEq, one0, Bool.false_eq_true]
    exact ⟨rfl, MR_bmp h (by omega), MLO_one (ONE_ua (ONE_refl 77 σ)) (by omega)⟩
theorem m199 (h : MR σ S) (hS : SOK S) {w : Int} (hw : 0 ≤ w ∧ w ≤ 9) : Cal (d + 4) 199 [.inr (.inr (.inl 71)), .inl w] σ (.inl (cntG S w)) σ := by
  have hr := cntG_r hS w
  have c221 : ((221 : Nat) : Int) = 221 := rfl
  have g2 := hS.1.2.1
  have e13 : ga σ 72 13 = S 0 13 := h.1 13 (by omega) (by omega)
  have e28 : ga σ 72 28 = S 0 28 := h.1 28 (by omega) (by omega)
  have e0 : ga σ 72 0 = S 0 0 := h.1 0 (by omega) (by omega)
  have e34 : ga σ 72 34 = S 0 34 := h.1 34 (by omega) (by omega)
  have e60 : ga σ 72 60 = S 0 60 := h.1 60 (by omega) (by omega)
  have e91 : ga σ 72 91 = S 0 91 := h.1 91 (by omega) (by omega)
  have e116 : ga σ 72 116 = S 0 116 := h.1 116 (by omega) (by omega)
  have et : gg σ 71 9 = S 4 2 := h.2.2.2.2.1.1
  refine Cal_in (ls := [.inr (.inr (.inl 71)), .inl w]) rfl mna_199 mml_199 mhl_199 rfl rfl ?_
  have hc : w = 0 ∨ w = 1 ∨ w = 2 ∨ w = 3 ∨ w = 4 ∨ w = 5 ∨ w = 6 ∨ w = 7 ∨ w = 8 ∨ w = 9 := by omega
  rcases hc with rfl | rfl | rfl | rfl | rfl | rfl | rfl | rfl | rfl | rfl
  · simp (disch := first | with_reducible assumption | omega | exact ga_in _ _ _ | exact gg_in _ _ _ | (unfold InR; omega) | (unfold InL; omega) | (simp only [shC_71, shC_72, shC_73, shC_74, shC_75, shC_76, shC_77, shC_78, shC_79, shL_72, shL_73, shL_74, shL_75, shL_76, shL_77, shL_78, shL_79]; first | done | omega)) only [q199_0, q199_1_0, q199_1_1, q199_1_2, q199_1_3, q199_1_4, q199_1_5, q199_1_6, q199_1_7, q199_1_8, q199_52, q199_53, q199_56, q199_58, q199_59, q199_60, q199_61, q199_64, q199_66, q199_67, q199_68, q199_69, q199_72, q199_75, q199_76, q199_77, q199_80, q199_81, q199_82, q199_83, q199_84, q199_87, q199_90, q199_91, q199_92, q199_95, q199_97, q199_98, q199_99, q199_100, q199_103, q199_105, q199_106, q199_107, q199_108, q199_111, q199_113, q199_114, q199_115, q199_116, q199_119, q199_121, q199_122, q199_123, q199_124, q199_127, shC_71, shC_72, shC_73, shC_74, shC_75, shC_76, shC_77, shC_78, shC_79, shL_72, shL_73, shL_74, shL_75, shL_76, shL_77, shL_78, shL_79, shR_71_0, shR_71_1, shR_71_2, shR_71_3, shR_71_4, shR_71_5, shR_71_8, shR_71_15, c221, pushR_I, pushR_L, pushR_R, pushR_V, InR_gg, InR_ga, InR_wr, InL_gl, InR_b, b01, b01_0, if_true, if_false, not_true_eq_false, not_false_eq_true, and_true, true_and, and_self, Sum.inl.injEq, one0, Bool.false_eq_true]
    exact e13
  · simp (disch := first | with_reducible assumption | omega | exact ga_in _ _ _ | exact gg_in _ _ _ | (unfold InR; omega) | (unfold InL; omega) | (simp only [shC_71, shC_72, shC_73, shC_74, shC_75, shC_76, shC_77, shC_78, shC_79, shL_72, shL_73, shL_74, shL_75, shL_76, shL_77, shL_78, shL_79]; first | done | omega)) only [q199_0, q199_1_0, q199_1_1, q199_1_2, q199_1_3, q199_1_4, q199_1_5, q199_1_6, q199_1_7, q199_1_8, q199_52, q199_53, q199_56, q199_58, q199_59, q199_60, q199_61, q199_64, q199_66, q199_67, q199_68, q199_69, q199_72, q199_75, q199_76, q199_77, q199_80, q199_81, q199_82, q199_83, q199_84, q199_87, q199_90, q199_91, q199_92, q199_95, q199_97, q199_98, q199_99, q199_100, q199_103, q199_105, q199_106, q199_107, q199_108, q199_111, q199_113, q199_114, q199_115, q199_116, q199_119, q199_121, q199_122, q199_123, q199_124, q199_127, shC_71, shC_72, shC_73, shC_74, shC_75, shC_76, shC_77, shC_78, shC_79, shL_72, shL_73, shL_74, shL_75, shL_76, shL_77, shL_78, shL_79, shR_71_0, shR_71_1, shR_71_2, shR_71_3, shR_71_4, shR_71_5, shR_71_8, shR_71_15, c221, pushR_I, pushR_L, pushR_R, pushR_V, InR_gg, InR_ga, InR_wr, InL_gl, InR_b, b01, b01_0, if_true, if_false, not_true_eq_false, not_false_eq_true, and_true, true_and, and_self, Sum.inl.injEq, one0, Bool.false_eq_true]
    exact e28
  · rw [show cntG S 2 = hotG (S 0) from rfl] at hr ⊢
    have hb := hotG_b hS.1
    simp (disch := first | with_reducible assumption | omega | exact ga_in _ _ _ | exact gg_in _ _ _ | (unfold InR; omega) | (unfold InL; omega) | (simp only [shC_71, shC_72, shC_73, shC_74, shC_75, shC_76, shC_77, shC_78, shC_79, shL_72, shL_73, shL_74, shL_75, shL_76, shL_77, shL_78, shL_79]; first | done | omega)) only [q199_0, q199_1_0, q199_1_1, q199_1_2, q199_1_3, q199_1_4, q199_1_5, q199_1_6, q199_1_7, q199_1_8, q199_52, q199_53, q199_56, q199_58, q199_59, q199_60, q199_61, q199_64, q199_66, q199_67, q199_68, q199_69, q199_72, q199_75, q199_76, q199_77, q199_80, q199_81, q199_82, q199_83, q199_84, q199_87, q199_90, q199_91, q199_92, q199_95, q199_97, q199_98, q199_99, q199_100, q199_103, q199_105, q199_106, q199_107, q199_108, q199_111, q199_113, q199_114, q199_115, q199_116, q199_119, q199_121, q199_122, q199_123, q199_124, q199_127, shC_71, shC_72, shC_73, shC_74, shC_75, shC_76, shC_77, shC_78, shC_79, shL_72, shL_73, shL_74, shL_75, shL_76, shL_77, shL_78, shL_79, shR_71_0, shR_71_1, shR_71_2, shR_71_3, shR_71_4, shR_71_5, shR_71_8, shR_71_15, c221, k134 (σ := σ) M72 (by omega), RW_hot h.1 (by omega) hS.1, pushR_I, pushR_L, pushR_R, pushR_V, InR_gg, InR_ga, InR_wr, InL_gl, InR_b, b01, b01_0, if_true, if_false, not_true_eq_false, not_false_eq_true, and_true, true_and, and_self, Sum.inl.injEq, one0, Bool.false_eq_true]
  · simp (disch := first | with_reducible assumption | omega | exact ga_in _ _ _ | exact gg_in _ _ _ | (unfold InR; omega) | (unfold InL; omega) | (simp only [shC_71, shC_72, shC_73, shC_74, shC_75, shC_76, shC_77, shC_78, shC_79, shL_72, shL_73, shL_74, shL_75, shL_76, shL_77, shL_78, shL_79]; first | done | omega)) only [q199_0, q199_1_0, q199_1_1, q199_1_2, q199_1_3, q199_1_4, q199_1_5, q199_1_6, q199_1_7, q199_1_8, q199_52, q199_53, q199_56, q199_58, q199_59, q199_60, q199_61, q199_64, q199_66, q199_67, q199_68, q199_69, q199_72, q199_75, q199_76, q199_77, q199_80, q199_81, q199_82, q199_83, q199_84, q199_87, q199_90, q199_91, q199_92, q199_95, q199_97, q199_98, q199_99, q199_100, q199_103, q199_105, q199_106, q199_107, q199_108, q199_111, q199_113, q199_114, q199_115, q199_116, q199_119, q199_121, q199_122, q199_123, q199_124, q199_127, shC_71, shC_72, shC_73, shC_74, shC_75, shC_76, shC_77, shC_78, shC_79, shL_72, shL_73, shL_74, shL_75, shL_76, shL_77, shL_78, shL_79, shR_71_0, shR_71_1, shR_71_2, shR_71_3, shR_71_4, shR_71_5, shR_71_8, shR_71_15, c221, pushR_I, pushR_L, pushR_R, pushR_V, InR_gg, InR_ga, InR_wr, InL_gl, InR_b, b01, b01_0, if_true, if_false, not_true_eq_false, not_false_eq_true, and_true, true_and, and_self, Sum.inl.injEq, one0, Bool.false_eq_true]
    exact e0
  · rw [show cntG S 4 = heatG (S 0) from rfl] at hr ⊢
    have hb := heatG_b hS.1
    simp (disch := first | with_reducible assumption | omega | exact ga_in _ _ _ | exact gg_in _ _ _ | (unfold InR; omega) | (unfold InL; omega) | (simp only [shC_71, shC_72, shC_73, shC_74, shC_75, shC_76, shC_77, shC_78, shC_79, shL_72, shL_73, shL_74, shL_75, shL_76, shL_77, shL_78, shL_79]; first | done | omega)) only [q199_0, q199_1_0, q199_1_1, q199_1_2, q199_1_3, q199_1_4, q199_1_5, q199_1_6, q199_1_7, q199_1_8, q199_52, q199_53, q199_56, q199_58, q199_59, q199_60, q199_61, q199_64, q199_66, q199_67, q199_68, q199_69, q199_72, q199_75, q199_76, q199_77, q199_80, q199_81, q199_82, q199_83, q199_84, q199_87, q199_90, q199_91, q199_92, q199_95, q199_97, q199_98, q199_99, q199_100, q199_103, q199_105, q199_106, q199_107, q199_108, q199_111, q199_113, q199_114, q199_115, q199_116, q199_119, q199_121, q199_122, q199_123, q199_124, q199_127, shC_71, shC_72, shC_73, shC_74, shC_75, shC_76, shC_77, shC_78, shC_79, shL_72, shL_73, shL_74, shL_75, shL_76, shL_77, shL_78, shL_79, shR_71_0, shR_71_1, shR_71_2, shR_71_3, shR_71_4, shR_71_5, shR_71_8, shR_71_15, c221, k135 (σ := σ) M72 (by omega), RW_heat h.1 (by omega) hS.1, pushR_I, pushR_L, pushR_R, pushR_V, InR_gg, InR_ga, InR_wr, InL_gl, InR_b, b01, b01_0, if_true, if_false, not_true_eq_false, not_false_eq_true, and_true, true_and, and_self, Sum.inl.injEq, one0, Bool.false_eq_true]
  · simp (disch := first | with_reducible assumption | omega | exact ga_in _ _ _ | exact gg_in _ _ _ | (unfold InR; omega) | (unfold InL; omega) | (simp only [shC_71, shC_72, shC_73, shC_74, shC_75, shC_76, shC_77, shC_78, shC_79, shL_72, shL_73, shL_74, shL_75, shL_76, shL_77, shL_78, shL_79]; first | done | omega)) only [q199_0, q199_1_0, q199_1_1, q199_1_2, q199_1_3, q199_1_4, q199_1_5, q199_1_6, q199_1_7, q199_1_8, q199_52, q199_53, q199_56, q199_58, q199_59, q199_60, q199_61, q199_64, q199_66, q199_67, q199_68, q199_69, q199_72, q199_75, q199_76, q199_77, q199_80, q199_81, q199_82, q199_83, q199_84, q199_87, q199_90, q199_91, q199_92, q199_95, q199_97, q199_98, q199_99, q199_100, q199_103, q199_105, q199_106, q199_107, q199_108, q199_111, q199_113, q199_114, q199_115, q199_116, q199_119, q199_121, q199_122, q199_123, q199_124, q199_127, shC_71, shC_72, shC_73, shC_74, shC_75, shC_76, shC_77, shC_78, shC_79, shL_72, shL_73, shL_74, shL_75, shL_76, shL_77, shL_78, shL_79, shR_71_0, shR_71_1, shR_71_2, shR_71_3, shR_71_4, shR_71_5, shR_71_8, shR_71_15, c221, pushR_I, pushR_L, pushR_R, pushR_V, InR_gg, InR_ga, InR_wr, InL_gl, InR_b, b01, b01_0, if_true, if_false, not_true_eq_false, not_false_eq_true, and_true, true_and, and_self, Sum.inl.injEq, one0, Bool.false_eq_true]
    exact e34
  · simp (disch := first | with_reducible assumption | omega | exact ga_in _ _ _ | exact gg_in _ _ _ | (unfold InR; omega) | (unfold InL; omega) | (simp only [shC_71, shC_72, shC_73, shC_74, shC_75, shC_76, shC_77, shC_78, shC_79, shL_72, shL_73, shL_74, shL_75, shL_76, shL_77, shL_78, shL_79]; first | done | omega)) only [q199_0, q199_1_0, q199_1_1, q199_1_2, q199_1_3, q199_1_4, q199_1_5, q199_1_6, q199_1_7, q199_1_8, q199_52, q199_53, q199_56, q199_58, q199_59, q199_60, q199_61, q199_64, q199_66, q199_67, q199_68, q199_69, q199_72, q199_75, q199_76, q199_77, q199_80, q199_81, q199_82, q199_83, q199_84, q199_87, q199_90, q199_91, q199_92, q199_95, q199_97, q199_98, q199_99, q199_100, q199_103, q199_105, q199_106, q199_107, q199_108, q199_111, q199_113, q199_114, q199_115, q199_116, q199_119, q199_121, q199_122, q199_123, q199_124, q199_127, shC_71, shC_72, shC_73, shC_74, shC_75, shC_76, shC_77, shC_78, shC_79, shL_72, shL_73, shL_74, shL_75, shL_76, shL_77, shL_78, shL_79, shR_71_0, shR_71_1, shR_71_2, shR_71_3, shR_71_4, shR_71_5, shR_71_8, shR_71_15, c221, pushR_I, pushR_L, pushR_R, pushR_V, InR_gg, InR_ga, InR_wr, InL_gl, InR_b, b01, b01_0, if_true, if_false, not_true_eq_false, not_false_eq_true, and_true, true_and, and_self, Sum.inl.injEq, one0, Bool.false_eq_true]
    exact e60
  · simp (disch := first | with_reducible assumption | omega | exact ga_in _ _ _ | exact gg_in _ _ _ | (unfold InR; omega) | (unfold InL; omega) | (simp only [shC_71, shC_72, shC_73, shC_74, shC_75, shC_76, shC_77, shC_78, shC_79, shL_72, shL_73, shL_74, shL_75, shL_76, shL_77, shL_78, shL_79]; first | done | omega)) only [q199_0, q199_1_0, q199_1_1, q199_1_2, q199_1_3, q199_1_4, q199_1_5, q199_1_6, q199_1_7, q199_1_8, q199_52, q199_53, q199_56, q199_58, q199_59, q199_60, q199_61, q199_64, q199_66, q199_67, q199_68, q199_69, q199_72, q199_75, q199_76, q199_77, q199_80, q199_81, q199_82, q199_83, q199_84, q199_87, q199_90, q199_91, q199_92, q199_95, q199_97, q199_98, q199_99, q199_100, q199_103, q199_105, q199_106, q199_107, q199_108, q199_111, q199_113, q199_114, q199_115, q199_116, q199_119, q199_121, q199_122, q199_123, q199_124, q199_127, shC_71, shC_72, shC_73, shC_74, shC_75, shC_76, shC_77, shC_78, shC_79, shL_72, shL_73, shL_74, shL_75, shL_76, shL_77, shL_78, shL_79, shR_71_0, shR_71_1, shR_71_2, shR_71_3, shR_71_4, shR_71_5, shR_71_8, shR_71_15, c221, pushR_I, pushR_L, pushR_R, pushR_V, InR_gg, InR_ga, InR_wr, InL_gl, InR_b, b01, b01_0, if_true, if_false, not_true_eq_false, not_false_eq_true, and_true, true_and, and_self, Sum.inl.injEq, one0, Bool.false_eq_true]
    exact e91
  · simp (disch := first | with_reducible assumption | omega | exact ga_in _ _ _ | exact gg_in _ _ _ | (unfold InR; omega) | (unfold InL; omega) | (simp only [shC_71, shC_72, shC_73, shC_74, shC_75, shC_76, shC_77, shC_78, shC_79, shL_72, shL_73, shL_74, shL_75, shL_76, shL_77, shL_78, shL_79]; first | done | omega)) only [q199_0, q199_1_0, q199_1_1, q199_1_2, q199_1_3, q199_1_4, q199_1_5, q199_1_6, q199_1_7, q199_1_8, q199_52, q199_53, q199_56, q199_58, q199_59, q199_60, q199_61, q199_64, q199_66, q199_67, q199_68, q199_69, q199_72, q199_75, q199_76, q199_77, q199_80, q199_81, q199_82, q199_83, q199_84, q199_87, q199_90, q199_91, q199_92, q199_95, q199_97, q199_98, q199_99, q199_100, q199_103, q199_105, q199_106, q199_107, q199_108, q199_111, q199_113, q199_114, q199_115, q199_116, q199_119, q199_121, q199_122, q199_123, q199_124, q199_127, shC_71, shC_72, shC_73, shC_74, shC_75, shC_76, shC_77, shC_78, shC_79, shL_72, shL_73, shL_74, shL_75, shL_76, shL_77, shL_78, shL_79, shR_71_0, shR_71_1, shR_71_2, shR_71_3, shR_71_4, shR_71_5, shR_71_8, shR_71_15, c221, pushR_I, pushR_L, pushR_R, pushR_V, InR_gg, InR_ga, InR_wr, InL_gl, InR_b, b01, b01_0, if_true, if_false, not_true_eq_false, not_false_eq_true, and_true, true_and, and_self, Sum.inl.injEq, one0, Bool.false_eq_true]
    exact e116
  · simp (disch := first | with_reducible assumption | omega | exact ga_in _ _ _ | exact gg_in _ _ _ | (unfold InR; omega) | (unfold InL; omega) | (simp only [shC_71, shC_72, shC_73, shC_74, shC_75, shC_76, shC_77, shC_78, shC_79, shL_72, shL_73, shL_74, shL_75, shL_76, shL_77, shL_78, shL_79]; first | done | omega)) only [q199_0, q199_1_0, q199_1_1, q199_1_2, q199_1_3, q199_1_4, q199_1_5, q199_1_6, q199_1_7, q199_1_8, q199_52, q199_53, q199_56, q199_58, q199_59, q199_60, q199_61, q199_64, q199_66, q199_67, q199_68, q199_69, q199_72, q199_75, q199_76, q199_77, q199_80, q199_81, q199_82, q199_83, q199_84, q199_87, q199_90, q199_91, q199_92, q199_95, q199_97, q199_98, q199_99, q199_100, q199_103, q199_105, q199_106, q199_107, q199_108, q199_111, q199_113, q199_114, q199_115, q199_116, q199_119, q199_121, q199_122, q199_123, q199_124, q199_127, q199_1_D, shC_71, shC_72, shC_73, shC_74, shC_75, shC_76, shC_77, shC_78, shC_79, shL_72, shL_73, shL_74, shL_75, shL_76, shL_77, shL_78, shL_79, shR_71_0, shR_71_1, shR_71_2, shR_71_3, shR_71_4, shR_71_5, shR_71_8, shR_71_15, pushR_I, pushR_L, pushR_R, pushR_V, InR_gg, InR_ga, InR_wr, InL_gl, InR_b, b01, b01_0, if_true, if_false, not_true_eq_false, not_false_eq_true, and_true, true_and, and_self, Sum.inl.injEq, one0, Bool.false_eq_true]
    exact et
theorem k199 (h : MR σ S) (hS : SOK S) {w : Int} (hw : 0 ≤ w ∧ w ≤ 9) : CalK (d + 4) 199 [.inr (.inr (.inl 71)), .inl w] σ K = K (.inl (cntG S w)) σ := CalK_eq (m199 h hS hw)
theorem o200 (h : MR σ S) (hS : SOK S) {w : Int} (hw : InR w) : CalE (d + 20) 200 [.inr (.inr (.inl 71)), .inl w] σ (OPM σ (fCount S w)) := by
  refine Cal_ex (ls := [.inr (.inr (.inl 71)), .inl w]) rfl mna_200 mml_200 mhl_200 rfl rfl ?_
  unfold fCount
  by_cases h1 : 0 ≤ w ∧ w ≤ 9
  · rw [if_pos h1]
    have hr := cntG_r hS w
    simp (disch := first | with_reducible assumption | omega | exact ga_in _ _ _ | exact gg_in _ _ _ | (unfold InR; omega) | (unfold InL; omega) | (simp only [shC_71, shC_72, shC_73, shC_74, shC_75, shC_76, shC_77, shC_78, shC_79, shL_72, shL_73, shL_74, shL_75, shL_76, shL_77, shL_78, shL_79]; first | done | omega)) only [q200_0, q200_1, q200_2, q200_4, q200_7, q200_10, q200_11, q200_12, q200_15, q200_18, q200_19, q200_22, shC_71, shC_72, shC_73, shC_74, shC_75, shC_76, shC_77, shC_78, shC_79, shL_72, shL_73, shL_74, shL_75, shL_76, shL_77, shL_78, shL_79, shR_71_0, shR_71_1, shR_71_2, shR_71_3, shR_71_4, shR_71_5, shR_71_8, shR_71_15, k116, h1, k199 h hS, pushR_I, pushR_L, pushR_R, pushR_V, InR_gg, InR_ga, InR_wr, InL_gl, InR_b, b01, b01_0, if_true, if_false, not_true_eq_false, not_false_eq_true, and_true, true_and, and_self, Sum.inl.injEq, one0, Bool.false_eq_true]
    exact MO_id h
  · rw [if_neg h1]
    simp (disch := first | with_reducible assumption | omega | exact ga_in _ _ _ | exact gg_in _ _ _ | (unfold InR; omega) | (unfold InL; omega) | (simp only [shC_71, shC_72, shC_73, shC_74, shC_75, shC_76, shC_77, shC_78, shC_79, shL_72, shL_73, shL_74, shL_75, shL_76, shL_77, shL_78, shL_79]; first | done | omega)) only [q200_0, q200_1, q200_2, q200_4, q200_7, q200_10, q200_11, q200_12, q200_15, q200_18, q200_19, q200_22, shC_71, shC_72, shC_73, shC_74, shC_75, shC_76, shC_77, shC_78, shC_79, shL_72, shL_73, shL_74, shL_75, shL_76, shL_77, shL_78, shL_79, shR_71_0, shR_71_1, shR_71_2, shR_71_3, shR_71_4, shR_71_5, shR_71_8, shR_71_15, k116, h1, k118, pushR_I, pushR_L, pushR_R, pushR_V, InR_gg, InR_ga, InR_wr, InL_gl, InR_b, b01, b01_0, if_true, if_false, not_true_eq_false, not_false_eq_true, and_true, true_and, and_self, Sum.inl.injEq, one0, Bool.false_eq_true]
    exact MO_bad h
theorem l201 {b N : Nat} (hb : b + N ≤ 221) {w1 : AV} : ∀ (n i : Nat) (v : Int), i + n = N → Wp none (d + 1) 201 6 [.inr (.inr (.inl 71)), w1, aU, .inl (b : Int), .inl (N : Int), .inr (.inl v), aU, .inl (i : Int)] [] σ Q = Q (.inr (.inl (mixF (fun j => ga σ 72 ((b : Int) + (j : Int))) i n v))) σ := by
  have c221 : ((221 : Nat) : Int) = 221 := rfl
  intro n
  induction n with
  | zero =>
    intro i v hi
    have e : i = N := by omega
    subst e
    simp (disch := first | with_reducible assumption | omega | exact ga_in _ _ _ | exact gg_in _ _ _ | (unfold InR; omega) | (unfold InL; omega) | (simp only [shC_71, shC_72, shC_73, shC_74, shC_75, shC_76, shC_77, shC_78, shC_79, shL_72, shL_73, shL_74, shL_75, shL_76, shL_77, shL_78, shL_79]; first | done | omega)) only [q201_6, q201_8, q201_10, q201_38, q201_40, shC_71, shC_72, shC_73, shC_74, shC_75, shC_76, shC_77, shC_78, shC_79, shL_72, shL_73, shL_74, shL_75, shL_76, shL_77, shL_78, shL_79, shR_71_0, shR_71_1, shR_71_2, shR_71_3, shR_71_4, shR_71_5, shR_71_8, shR_71_15, Int.le_refl, mixF, pushR_I, pushR_L, pushR_R, pushR_V, InR_gg, InR_ga, InR_wr, InL_gl, InR_b, b01, b01_0, if_true, if_false, not_true_eq_false, not_false_eq_true, and_true, true_and, and_self, Sum.inl.injEq, one0, Bool.false_eq_true]
  | succ n ih =>
    intro i v hi
    have e : ¬ (N : Int) ≤ (i : Int) := by omega
    simp (disch := first | with_reducible assumption | omega | exact ga_in _ _ _ | exact gg_in _ _ _ | (unfold InR; omega) | (unfold InL; omega) | (simp only [shC_71, shC_72, shC_73, shC_74, shC_75, shC_76, shC_77, shC_78, shC_79, shL_72, shL_73, shL_74, shL_75, shL_76, shL_77, shL_78, shL_79]; first | done | omega)) only [q201_6, q201_8, q201_10, q201_13, q201_16, q201_18, q201_19, q201_20, q201_23, q201_24, q201_26, q201_27, q201_28, q201_29, q201_30, q201_32, shC_71, shC_72, shC_73, shC_74, shC_75, shC_76, shC_77, shC_78, shC_79, shL_72, shL_73, shL_74, shL_75, shL_76, shL_77, shL_78, shL_79, shR_71_0, shR_71_1, shR_71_2, shR_71_3, shR_71_4, shR_71_5, shR_71_8, shR_71_15, c221, e, pushR_I, pushR_L, pushR_R, pushR_V, InR_gg, InR_ga, InR_wr, InL_gl, InR_b, b01, b01_0, if_true, if_false, not_true_eq_false, not_false_eq_true, and_true, true_and, and_self, Sum.inl.injEq, one0, Bool.false_eq_true]
    rw [q201_35]
    exact ih (i + 1) _ (by omega)
theorem m201 {b N : Nat} {v : Int} (hb : b + N ≤ 221) : Cal (d + 2) 201 [.inr (.inr (.inl 71)), .inr (.inl v), .inl (b : Int), .inl (N : Int)] σ (.inr (.inl (mixF (fun j => ga σ 72 ((b : Int) + (j : Int))) 0 N v))) σ := by
  refine Cal_in (ls := [.inr (.inr (.inl 71)), .inr (.inl v), aU, .inl (b : Int), .inl (N : Int), aU, aU, aU]) rfl mna_201 mml_201 mhl_201 rfl rfl ?_
  simp (disch := first | with_reducible assumption | omega | exact ga_in _ _ _ | exact gg_in _ _ _ | (unfold InR; omega) | (unfold InL; omega) | (simp only [shC_71, shC_72, shC_73, shC_74, shC_75, shC_76, shC_77, shC_78, shC_79, shL_72, shL_73, shL_74, shL_75, shL_76, shL_77, shL_78, shL_79]; first | done | omega)) only [q201_0, q201_1, q201_3, q201_4, pushR_I, pushR_L, pushR_R, pushR_V, InR_gg, InR_ga, InR_wr, InL_gl, InR_b, b01, b01_0, if_true, if_false, not_true_eq_false, not_false_eq_true, and_true, true_and, and_self, Sum.inl.injEq, one0, Bool.false_eq_true]
  exact (l201 (d := d) hb N 0 v (by omega)).mpr ⟨rfl, rfl⟩
theorem k201 {b N : Nat} {v : Int} (hb : b + N ≤ 221) : CalK (d + 2) 201 [.inr (.inr (.inl 71)), .inr (.inl v), .inl (b : Int), .inl (N : Int)] σ K = K (.inr (.inl (mixF (fun j => ga σ 72 ((b : Int) + (j : Int))) 0 N v))) σ := CalK_eq (m201 hb)
theorem l202a (h : MR σ S) (hS : SOK S) : ∀ (n i : Nat) (v : Int), i + n = 10 → Wp none (d + 19) 202 6 [.inr (.inr (.inl 71)), .inr (.inl v), aU, .inl (i : Int)] [] σ Q = Wp none (d + 19) 202 31 [.inr (.inr (.inl 71)), .inr (.inl (mixF (fun w => cntG S (w : Int)) i n v)), aU, .inl 10] [] σ Q := by
  intro n
  induction n with
  | zero =>
    intro i v hi
    have e : i = 10 := by omega
    subst e
    have e1 : ((10 : Nat) : Int) = 10 := rfl
    simp (disch := first | with_reducible assumption | omega | exact ga_in _ _ _ | exact gg_in _ _ _ | (unfold InR; omega) | (unfold InL; omega) | (simp only [shC_71, shC_72, shC_73, shC_74, shC_75, shC_76, shC_77, shC_78, shC_79, shL_72, shL_73, shL_74, shL_75, shL_76, shL_77, shL_78, shL_79]; first | done | omega)) only [q202_6, q202_7, q202_9, e1, Int.le_refl, mixF, pushR_I, pushR_L, pushR_R, pushR_V, InR_gg, InR_ga, InR_wr, InL_gl, InR_b, b01, b01_0, if_true, if_false, not_true_eq_false, not_false_eq_true, and_true, true_and, and_self, Sum.inl.injEq, one0, Bool.false_eq_true]
  | succ n ih =>
    intro i v hi
    have e2 : ¬ (10 : Int) ≤ (i : Int) := by omega
    have hr := cntG_r hS (i : Int)
    simp (disch := first | with_reducible assumption | omega | exact ga_in _ _ _ | exact gg_in _ _ _ | (unfold InR; omega) | (unfold InL; omega) | (simp only [shC_71, shC_72, shC_73, shC_74, shC_75, shC_76, shC_77, shC_78, shC_79, shL_72, shL_73, shL_74, shL_75, shL_76, shL_77, shL_78, shL_79]; first | done | omega)) only [q202_6, q202_7, q202_9, q202_12, q202_15, q202_16, q202_17, q202_18, q202_19, q202_22, q202_23, q202_24, q202_25, e2, k199 h hS, pushR_I, pushR_L, pushR_R, pushR_V, InR_gg, InR_ga, InR_wr, InL_gl, InR_b, b01, b01_0, if_true, if_false, not_true_eq_false, not_false_eq_true, and_true, true_and, and_self, Sum.inl.injEq, one0, Bool.false_eq_true]
    rw [q202_28]
    exact ih (i + 1) _ (by omega)
theorem l202b {N : Nat} (hN : ga σ 72 13 = (N : Int)) (h7 : N ≤ 7) : ∀ (n l : Nat) (v : Int), l + n = N → Wp none (d + 19) 202 33 [.inr (.inr (.inl 71)), .inr (.inl v), aU, .inl (l : Int)] [] σ Q = Wp none (d + 19) 202 97 [.inr (.inr (.inl 71)), .inr (.inl (foldU (fun l h => 31 * (31 * (31 * h + ga σ 72 (14 + (l : Int))) + ga σ 72 (21 + (l : Int))) + ga σ 72 (6 + (l : Int))) n l v)), aU, .inl (N : Int)] [] σ Q := by
  have c221 : ((221 : Nat) : Int) = 221 := rfl
  intro n
  induction n with
  | zero =>
    intro l v hl
    have e : l = N := by omega
    subst e
    simp (disch := first | with_reducible assumption | omega | exact ga_in _ _ _ | exact gg_in _ _ _ | (unfold InR; omega) | (unfold InL; omega) | (simp only [shC_71, shC_72, shC_73, shC_74, shC_75, shC_76, shC_77, shC_78, shC_79, shL_72, shL_73, shL_74, shL_75, shL_76, shL_77, shL_78, shL_79]; first | done | omega)) only [q202_33, q202_34, q202_35, q202_38, q202_40, q202_41, shC_71, shC_72, shC_73, shC_74, shC_75, shC_76, shC_77, shC_78, shC_79, shL_72, shL_73, shL_74, shL_75, shL_76, shL_77, shL_78, shL_79, shR_71_0, shR_71_1, shR_71_2, shR_71_3, shR_71_4, shR_71_5, shR_71_8, shR_71_15, c221, hN, Int.le_refl, foldU, pushR_I, pushR_L, pushR_R, pushR_V, InR_gg, InR_ga, InR_wr, InL_gl, InR_b, b01, b01_0, if_true, if_false, not_true_eq_false, not_false_eq_true, and_true, true_and, and_self, Sum.inl.injEq, one0, Bool.false_eq_true]
  | succ n ih =>
    intro l v hl
    have e2 : ¬ (N : Int) ≤ (l : Int) := by omega
    simp (disch := first | with_reducible assumption | omega | exact ga_in _ _ _ | exact gg_in _ _ _ | (unfold InR; omega) | (unfold InL; omega) | (simp only [shC_71, shC_72, shC_73, shC_74, shC_75, shC_76, shC_77, shC_78, shC_79, shL_72, shL_73, shL_74, shL_75, shL_76, shL_77, shL_78, shL_79]; first | done | omega)) only [q202_33, q202_34, q202_35, q202_38, q202_40, q202_41, q202_44, q202_47, q202_50, q202_53, q202_54, q202_55, q202_56, q202_59, q202_61, q202_62, q202_63, q202_64, q202_65, q202_66, q202_67, q202_68, q202_71, q202_73, q202_74, q202_75, q202_76, q202_77, q202_78, q202_79, q202_80, q202_83, q202_85, q202_86, q202_87, q202_88, q202_89, q202_90, q202_91, shC_71, shC_72, shC_73, shC_74, shC_75, shC_76, shC_77, shC_78, shC_79, shL_72, shL_73, shL_74, shL_75, shL_76, shL_77, shL_78, shL_79, shR_71_0, shR_71_1, shR_71_2, shR_71_3, shR_71_4, shR_71_5, shR_71_8, shR_71_15, c221, hN, e2, pushR_I, pushR_L, pushR_R, pushR_V, InR_gg, InR_ga, InR_wr, InL_gl, InR_b, b01, b01_0, if_true, if_false, not_true_eq_false, not_false_eq_true, and_true, true_and, and_self, Sum.inl.injEq, one0, Bool.false_eq_true]
    rw [q202_94]
    exact ih (l + 1) _ (by omega)
theorem l202c {N : Nat} (hN : ga σ 72 28 = (N : Int)) (h7 : N ≤ 5) : ∀ (n o : Nat) (v : Int), o + n = N → Wp none (d + 19) 202 99 [.inr (.inr (.inl 71)), .inr (.inl v), aU, .inl (o : Int)] [] σ Q = Wp none (d + 19) 202 147 [.inr (.inr (.inl 71)), .inr (.inl (foldU (fun o h => 31 * (31 * h + ga σ 72 (29 + (o : Int))) + ga σ 72 (1 + (o : Int))) n o v)), aU, .inl (N : Int)] [] σ Q := by
  have c221 : ((221 : Nat) : Int) = 221 := rfl
  intro n
  induction n with
  | zero =>
    intro o v hl
    have e : o = N := by omega
    subst e
    simp (disch := first | with_reducible assumption | omega | exact ga_in _ _ _ | exact gg_in _ _ _ | (unfold InR; omega) | (unfold InL; omega) | (simp only [shC_71, shC_72, shC_73, shC_74, shC_75, shC_76, shC_77, shC_78, shC_79, shL_72, shL_73, shL_74, shL_75, shL_76, shL_77, shL_78, shL_79]; first | done | omega)) only [q202_99, q202_100, q202_101, q202_104, q202_106, q202_107, shC_71, shC_72, shC_73, shC_74, shC_75, shC_76, shC_77, shC_78, shC_79, shL_72, shL_73, shL_74, shL_75, shL_76, shL_77, shL_78, shL_79, shR_71_0, shR_71_1, shR_71_2, shR_71_3, shR_71_4, shR_71_5, shR_71_8, shR_71_15, c221, hN, Int.le_refl, foldU, pushR_I, pushR_L, pushR_R, pushR_V, InR_gg, InR_ga, InR_wr, InL_gl, InR_b, b01, b01_0, if_true, if_false, not_true_eq_false, not_false_eq_true, and_true, true_and, and_self, Sum.inl.injEq, one0, Bool.false_eq_true]
  | succ n ih =>
    intro o v hl
    have e2 : ¬ (N : Int) ≤ (o : Int) := by omega
    simp (disch := first | with_reducible assumption | omega | exact ga_in _ _ _ | exact gg_in _ _ _ | (unfold InR; omega) | (unfold InL; omega) | (simp only [shC_71, shC_72, shC_73, shC_74, shC_75, shC_76, shC_77, shC_78, shC_79, shL_72, shL_73, shL_74, shL_75, shL_76, shL_77, shL_78, shL_79]; first | done | omega)) only [q202_99, q202_100, q202_101, q202_104, q202_106, q202_107, q202_110, q202_113, q202_116, q202_117, q202_118, q202_119, q202_122, q202_124, q202_125, q202_126, q202_127, q202_128, q202_129, q202_130, q202_131, q202_134, q202_135, q202_136, q202_137, q202_138, q202_139, q202_140, q202_141, shC_71, shC_72, shC_73, shC_74, shC_75, shC_76, shC_77, shC_78, shC_79, shL_72, shL_73, shL_74, shL_75, shL_76, shL_77, shL_78, shL_79, shR_71_0, shR_71_1, shR_71_2, shR_71_3, shR_71_4, shR_71_5, shR_71_8, shR_71_15, c221, hN, e2, pushR_I, pushR_L, pushR_R, pushR_V, InR_gg, InR_ga, InR_wr, InL_gl, InR_b, b01, b01_0, if_true, if_false, not_true_eq_false, not_false_eq_true, and_true, true_and, and_self, Sum.inl.injEq, one0, Bool.false_eq_true]
    rw [q202_144]
    exact ih (o + 1) _ (by omega)
theorem o202 (h : MR σ S) (hS : SOK S) : CalE (d + 20) 202 [.inr (.inr (.inl 71))] σ (OPML σ (fDigest S)) := by
  obtain ⟨g1, g2, g3, g4, g5, ⟨g6, -⟩, ⟨g7, -⟩, ⟨g8, -⟩, ⟨g9, -⟩⟩ := hS.1
  obtain ⟨c11, c12⟩ := h.2.2.2.2.2.2
  have c221 : ((221 : Nat) : Int) = 221 := rfl
  have e13 : ga σ 72 13 = S 0 13 := h.1 13 (by omega) (by omega)
  have e28 : ga σ 72 28 = S 0 28 := h.1 28 (by omega) (by omega)
  have e34 : ga σ 72 34 = S 0 34 := h.1 34 (by omega) (by omega)
  have e60 : ga σ 72 60 = S 0 60 := h.1 60 (by omega) (by omega)
  have e91 : ga σ 72 91 = S 0 91 := h.1 91 (by omega) (by omega)
  have K1 : ∀ v K, CalK (d + 19) 201 [.inr (.inr (.inl 71)), .inr (.inl v), .inl 35, .inl (5 * S 0 34)] σ K = K (.inr (.inl (mixF (fun j => ga σ 72 (35 + (j : Int))) 0 (5 * S 0 34).toNat v))) σ := fun v K => by
    rw [show 5 * S 0 34 = (((5 * S 0 34).toNat : Nat) : Int) by omega]
    exact k201 (d := d + 17) (b := 35) (by omega)
  have K2 : ∀ v K, CalK (d + 19) 201 [.inr (.inr (.inl 71)), .inr (.inl v), .inl 61, .inl (5 * S 0 60)] σ K = K (.inr (.inl (mixF (fun j => ga σ 72 (61 + (j : Int))) 0 (5 * S 0 60).toNat v))) σ := fun v K => by
    rw [show 5 * S 0 60 = (((5 * S 0 60).toNat : Nat) : Int) by omega]
    exact k201 (d := d + 17) (b := 61) (by omega)
  have K3 : ∀ v K, CalK (d + 19) 201 [.inr (.inr (.inl 71)), .inr (.inl v), .inl 92, .inl (4 * S 0 91)] σ K = K (.inr (.inl (mixF (fun j => ga σ 72 (92 + (j : Int))) 0 (4 * S 0 91).toNat v))) σ := fun v K => by
    rw [show 4 * S 0 91 = (((4 * S 0 91).toNat : Nat) : Int) by omega]
    exact k201 (d := d + 17) (b := 92) (by omega)
  refine Cal_ex (ls := [.inr (.inr (.inl 71)), aU, aU, aU]) rfl mna_202 mml_202 mhl_202 rfl rfl ?_
  simp (disch := first | with_reducible assumption | omega | exact ga_in _ _ _ | exact gg_in _ _ _ | (unfold InR; omega) | (unfold InL; omega) | (simp only [shC_71, shC_72, shC_73, shC_74, shC_75, shC_76, shC_77, shC_78, shC_79, shL_72, shL_73, shL_74, shL_75, shL_76, shL_77, shL_78, shL_79]; first | done | omega)) only [q202_0, q202_3, q202_4, q202_5, pushR_I, pushR_L, pushR_R, pushR_V, InR_gg, InR_ga, InR_wr, InL_gl, InR_b, b01, b01_0, if_true, if_false, not_true_eq_false, not_false_eq_true, and_true, true_and, and_self, Sum.inl.injEq, one0, Bool.false_eq_true]
  refine (l202a (d := d) h hS 10 0 1697 (by omega)).mpr ?_
  simp (disch := first | with_reducible assumption | omega | exact ga_in _ _ _ | exact gg_in _ _ _ | (unfold InR; omega) | (unfold InL; omega) | (simp only [shC_71, shC_72, shC_73, shC_74, shC_75, shC_76, shC_77, shC_78, shC_79, shL_72, shL_73, shL_74, shL_75, shL_76, shL_77, shL_78, shL_79]; first | done | omega)) only [q202_31, q202_32, pushR_I, pushR_L, pushR_R, pushR_V, InR_gg, InR_ga, InR_wr, InL_gl, InR_b, b01, b01_0, if_true, if_false, not_true_eq_false, not_false_eq_true, and_true, true_and, and_self, Sum.inl.injEq, one0, Bool.false_eq_true]
  refine (l202b (d := d) (σ := σ) (N := (S 0 13).toNat) (by omega) (by omega) (S 0 13).toNat 0 _ (by omega)).mpr ?_
  simp (disch := first | with_reducible assumption | omega | exact ga_in _ _ _ | exact gg_in _ _ _ | (unfold InR; omega) | (unfold InL; omega) | (simp only [shC_71, shC_72, shC_73, shC_74, shC_75, shC_76, shC_77, shC_78, shC_79, shL_72, shL_73, shL_74, shL_75, shL_76, shL_77, shL_78, shL_79]; first | done | omega)) only [q202_97, q202_98, pushR_I, pushR_L, pushR_R, pushR_V, InR_gg, InR_ga, InR_wr, InL_gl, InR_b, b01, b01_0, if_true, if_false, not_true_eq_false, not_false_eq_true, and_true, true_and, and_self, Sum.inl.injEq, one0, Bool.false_eq_true]
  refine (l202c (d := d) (σ := σ) (N := (S 0 28).toNat) (by omega) (by omega) (S 0 28).toNat 0 _ (by omega)).mpr ?_
  simp (disch := first | with_reducible assumption | omega | exact ga_in _ _ _ | exact gg_in _ _ _ | (unfold InR; omega) | (unfold InL; omega) | (simp only [shC_71, shC_72, shC_73, shC_74, shC_75, shC_76, shC_77, shC_78, shC_79, shL_72, shL_73, shL_74, shL_75, shL_76, shL_77, shL_78, shL_79]; first | done | omega)) only [q202_147, q202_148, q202_149, q202_151, q202_152, q202_153, q202_156, q202_158, q202_159, q202_160, q202_163, q202_164, q202_165, q202_166, q202_168, q202_169, q202_170, q202_173, q202_175, q202_176, q202_177, q202_180, q202_181, q202_182, q202_183, q202_185, q202_186, q202_187, q202_190, q202_192, q202_193, q202_194, q202_197, q202_198, q202_201, q202_204, q202_205, q202_206, q202_207, q202_210, q202_211, q202_212, q202_213, q202_216, q202_217, shC_71, shC_72, shC_73, shC_74, shC_75, shC_76, shC_77, shC_78, shC_79, shL_72, shL_73, shL_74, shL_75, shL_76, shL_77, shL_78, shL_79, shR_71_0, shR_71_1, shR_71_2, shR_71_3, shR_71_4, shR_71_5, shR_71_8, shR_71_15, c221, e34, e60, e91, K1, K2, K3, c11, c12, pushR_I, pushR_L, pushR_R, pushR_V, InR_gg, InR_ga, InR_wr, InL_gl, InR_b, b01, b01_0, if_true, if_false, not_true_eq_false, not_false_eq_true, and_true, true_and, and_self, Sum.inl.injEq, one0, Bool.false_eq_true]
  refine ⟨⟨_, rfl, ?_⟩, h, MLO_refl σ⟩
  show wrL _ = wrL (digV S)
  congr 1
  unfold digV
  rw [mixF_congr (f := fun j => ga σ 72 (35 + (j : Int))) (f2 := fun i => S 0 (35 + (i : Int))) _ _ _ (fun j _ hj => h.1 _ (by omega) (by omega)),
    mixF_congr (f := fun j => ga σ 72 (61 + (j : Int))) (f2 := fun i => S 0 (61 + (i : Int))) _ _ _ (fun j _ hj => h.1 _ (by omega) (by omega)),
    mixF_congr (f := fun j => ga σ 72 (92 + (j : Int))) (f2 := fun i => S 0 (92 + (i : Int))) _ _ _ (fun j _ hj => h.1 _ (by omega) (by omega))]
  rw [foldU_congr (fun (l : Nat) (h : Int) => 31 * (31 * (31 * h + ga σ 72 (14 + (l : Int))) + ga σ 72 (21 + (l : Int))) + ga σ 72 (6 + (l : Int))) (fun (l : Nat) (h : Int) => 31 * (31 * (31 * h + S 0 (14 + (l : Int))) + S 0 (21 + (l : Int))) + S 0 (6 + (l : Int))) _ _ _ (fun l z _ hl2 => by
      rw [h.1 (14 + (l : Int)) (by omega) (by omega), h.1 (21 + (l : Int)) (by omega) (by omega), h.1 (6 + (l : Int)) (by omega) (by omega)]),
    foldU_congr (fun (o : Nat) (h : Int) => 31 * (31 * h + ga σ 72 (29 + (o : Int))) + ga σ 72 (1 + (o : Int))) (fun (o : Nat) (h : Int) => 31 * (31 * h + S 0 (29 + (o : Int))) + S 0 (1 + (o : Int))) _ _ _ (fun o z _ ho2 => by
      rw [h.1 (29 + (o : Int)) (by omega) (by omega), h.1 (1 + (o : Int)) (by omega) (by omega)])]
end MOPS7
