-- the reference: kinds that fit, and how many are alike
section MOPS4
variable {d : Nat} {σ : SG} {S : Nat → Int → Int} {K : AV → SG → Prop} {Q : AV → SG → Prop} {g : Int → Int} {m : Nat}
theorem l183b (hr : RW σ 72 221 g) (hg : GOK g) {l bits : Int} (hl : InR l) {kd : Nat} (hk : kd < 6) : ∀ (n i : Nat) (a : Int) (v6 : AV), (i : Int) + n = g 60 → (a = 0 ∨ a = 1) →
    (∀ v, Wp none (d + 4) 183 109 [.inr (.inr (.inl 71)), .inl l, .inl bits, .inl (kd : Int), .inl (flg (noteG g (kd : Int) l) i n a), .inl (g 60), v] [] σ Q) →
    Wp none (d + 4) 183 16 [.inr (.inr (.inl 71)), .inl l, .inl bits, .inl (kd : Int), .inl a, .inl (i : Int), v6] [] σ Q := by
  have c221 : ((221 : Nat) : Int) = 221 := rfl
  obtain ⟨g1, g2, g3, g4, g5, -, ⟨g6, g6'⟩, -⟩ := hg
  have e60 : ga σ 72 60 = g 60 := hr 60 (by omega) (by omega)
  intro n
  induction n with
  | zero =>
    intro i a v6 hi ha hq
    have e : g 60 ≤ (i : Int) := by omega
    have ei : (i : Int) = g 60 := by omega
    simp (disch := first | with_reducible assumption | omega | exact ga_in _ _ _ | exact gg_in _ _ _ | (unfold InR; omega) | (unfold InL; omega) | (simp only [shC_71, shC_72, shC_73, shC_74, shC_75, shC_76, shC_77, shC_78, shC_79, shL_72, shL_73, shL_74, shL_75, shL_76, shL_77, shL_78, shL_79]; first | done | omega)) only [q183_16, q183_18, q183_19, q183_22, q183_24, q183_25, shC_71, shC_72, shC_73, shC_74, shC_75, shC_76, shC_77, shC_78, shC_79, shL_72, shL_73, shL_74, shL_75, shL_76, shL_77, shL_78, shL_79, shR_71_0, shR_71_1, shR_71_2, shR_71_3, shR_71_4, shR_71_5, shR_71_8, shR_71_15, c221, e60, e, pushR_I, pushR_L, pushR_R, pushR_V, InR_gg, InR_ga, InR_wr, InL_gl, InR_b, b01, b01_0, if_true, if_false, not_true_eq_false, not_false_eq_true, and_true, true_and, and_self, Sum.inl.injEq, one0, Bool.false_eq_true]
    rw [ei]
    exact hq v6
  | succ n ih =>
    intro i a v6 hi ha hq
    have e : ¬ g 60 ≤ (i : Int) := by omega
    obtain ⟨b0, b1, b2, b3, b4⟩ := g6' (i : Int) (by omega) (by omega)
    have q0 : ga σ 72 (61 + 5 * (i : Int)) = g (61 + 5 * (i : Int)) := hr _ (by omega) (by omega)
    have q1 : ga σ 72 (61 + 5 * (i : Int) + 1) = g (62 + 5 * (i : Int)) := by rw [show 61 + 5 * (i : Int) + 1 = 62 + 5 * (i : Int) by omega]; exact hr _ (by omega) (by omega)
    have q2 : ga σ 72 (61 + 5 * (i : Int) + 2) = g (63 + 5 * (i : Int)) := by rw [show 61 + 5 * (i : Int) + 2 = 63 + 5 * (i : Int) by omega]; exact hr _ (by omega) (by omega)
    have q3 : ga σ 72 (61 + 5 * (i : Int) + 3) = g (64 + 5 * (i : Int)) := by rw [show 61 + 5 * (i : Int) + 3 = 64 + 5 * (i : Int) by omega]; exact hr _ (by omega) (by omega)
    have q4 : ga σ 72 (61 + 5 * (i : Int) + 4) = g (65 + 5 * (i : Int)) := by rw [show 61 + 5 * (i : Int) + 4 = 65 + 5 * (i : Int) by omega]; exact hr _ (by omega) (by omega)
    have bl : 0 ≤ ltI (kd : Int) (g (62 + 5 * (i : Int))) (g (63 + 5 * (i : Int))) (g (64 + 5 * (i : Int))) ∧ ltI (kd : Int) (g (62 + 5 * (i : Int))) (g (63 + 5 * (i : Int))) (g (64 + 5 * (i : Int))) ≤ 4008 := ltI_b (by omega) (by omega)
    simp only [flg] at hq
    rcases ha with rfl | rfl
    · simp only [not_true_eq_false, false_and, if_false] at hq
      simp (disch := first | with_reducible assumption | omega | exact ga_in _ _ _ | exact gg_in _ _ _ | (unfold InR; omega) | (unfold InL; omega) | (simp only [shC_71, shC_72, shC_73, shC_74, shC_75, shC_76, shC_77, shC_78, shC_79, shL_72, shL_73, shL_74, shL_75, shL_76, shL_77, shL_78, shL_79]; first | done | omega)) only [q183_16, q183_18, q183_19, q183_22, q183_24, q183_25, q183_28, q183_30, q183_31, q183_33, q183_34, q183_35, q183_37, q183_39, q183_42, q183_43, q183_46, q183_48, q183_49, q183_50, q183_53, q183_54, q183_55, q183_58, q183_60, q183_61, q183_62, q183_63, q183_64, q183_67, q183_69, q183_70, q183_71, q183_72, q183_73, q183_76, q183_78, q183_79, q183_80, q183_81, q183_84, q183_85, q183_88, q183_90, q183_91, q183_92, q183_93, q183_96, q183_97, q183_100, q183_101, q183_103, shC_71, shC_72, shC_73, shC_74, shC_75, shC_76, shC_77, shC_78, shC_79, shL_72, shL_73, shL_74, shL_75, shL_76, shL_77, shL_78, shL_79, shR_71_0, shR_71_1, shR_71_2, shR_71_3, shR_71_4, shR_71_5, shR_71_8, shR_71_15, c221, e60, e, q0, q1, q2, q3, q4, k126, false_and, pushR_I, pushR_L, pushR_R, pushR_V, InR_gg, InR_ga, InR_wr, InL_gl, InR_b, b01, b01_0, if_true, if_false, not_true_eq_false, not_false_eq_true, and_true, true_and, and_self, Sum.inl.injEq, one0, Bool.false_eq_true]
      rw [q183_106]
      exact ih (i + 1) 0 _ (by omega) (Or.inl rfl) hq
    · simp only [one0, not_false_eq_true, true_and] at hq
      by_cases c0 : g (61 + 5 * (i : Int)) = l
      · by_cases c1 : ltI (kd : Int) (g (62 + 5 * (i : Int))) (g (63 + 5 * (i : Int))) (g (64 + 5 * (i : Int))) = g (65 + 5 * (i : Int))
        · have hn : noteG g (kd : Int) l i = true := decide_eq_true (Or.inr c1)
          simp only [hn, if_true] at hq
          simp (disch := first | with_reducible assumption | omega | exact ga_in _ _ _ | exact gg_in _ _ _ | (unfold InR; omega) | (unfold InL; omega) | (simp only [shC_71, shC_72, shC_73, shC_74, shC_75, shC_76, shC_77, shC_78, shC_79, shL_72, shL_73, shL_74, shL_75, shL_76, shL_77, shL_78, shL_79]; first | done | omega)) only [q183_16, q183_18, q183_19, q183_22, q183_24, q183_25, q183_28, q183_30, q183_31, q183_33, q183_34, q183_35, q183_37, q183_39, q183_42, q183_43, q183_46, q183_48, q183_49, q183_50, q183_53, q183_54, q183_55, q183_58, q183_60, q183_61, q183_62, q183_63, q183_64, q183_67, q183_69, q183_70, q183_71, q183_72, q183_73, q183_76, q183_78, q183_79, q183_80, q183_81, q183_84, q183_85, q183_88, q183_90, q183_91, q183_92, q183_93, q183_96, q183_97, q183_100, q183_101, q183_103, shC_71, shC_72, shC_73, shC_74, shC_75, shC_76, shC_77, shC_78, shC_79, shL_72, shL_73, shL_74, shL_75, shL_76, shL_77, shL_78, shL_79, shR_71_0, shR_71_1, shR_71_2, shR_71_3, shR_71_4, shR_71_5, shR_71_8, shR_71_15, c221, e60, e, q0, q1, q2, q3, q4, k126, c0, c1, pushR_I, pushR_L, pushR_R, pushR_V, InR_gg, InR_ga, InR_wr, InL_gl, InR_b, b01, b01_0, if_true, if_false, not_true_eq_false, not_false_eq_true, and_true, true_and, and_self, Sum.inl.injEq, one0, Bool.false_eq_true]
          rw [q183_106]
          exact ih (i + 1) 1 _ (by omega) (Or.inr rfl) hq
        · have hn : noteG g (kd : Int) l i = false := decide_eq_false (fun q => q.elim (fun z => z c0) c1)
          simp only [hn, Bool.false_eq_true, if_false] at hq
          simp (disch := first | with_reducible assumption | omega | exact ga_in _ _ _ | exact gg_in _ _ _ | (unfold InR; omega) | (unfold InL; omega) | (simp only [shC_71, shC_72, shC_73, shC_74, shC_75, shC_76, shC_77, shC_78, shC_79, shL_72, shL_73, shL_74, shL_75, shL_76, shL_77, shL_78, shL_79]; first | done | omega)) only [q183_16, q183_18, q183_19, q183_22, q183_24, q183_25, q183_28, q183_30, q183_31, q183_33, q183_34, q183_35, q183_37, q183_39, q183_42, q183_43, q183_46, q183_48, q183_49, q183_50, q183_53, q183_54, q183_55, q183_58, q183_60, q183_61, q183_62, q183_63, q183_64, q183_67, q183_69, q183_70, q183_71, q183_72, q183_73, q183_76, q183_78, q183_79, q183_80, q183_81, q183_84, q183_85, q183_88, q183_90, q183_91, q183_92, q183_93, q183_96, q183_97, q183_100, q183_101, q183_103, shC_71, shC_72, shC_73, shC_74, shC_75, shC_76, shC_77, shC_78, shC_79, shL_72, shL_73, shL_74, shL_75, shL_76, shL_77, shL_78, shL_79, shR_71_0, shR_71_1, shR_71_2, shR_71_3, shR_71_4, shR_71_5, shR_71_8, shR_71_15, c221, e60, e, q0, q1, q2, q3, q4, k126, c0, c1, pushR_I, pushR_L, pushR_R, pushR_V, InR_gg, InR_ga, InR_wr, InL_gl, InR_b, b01, b01_0, if_true, if_false, not_true_eq_false, not_false_eq_true, and_true, true_and, and_self, Sum.inl.injEq, one0, Bool.false_eq_true]
          rw [q183_106]
          exact ih (i + 1) 0 _ (by omega) (Or.inl rfl) hq
      · have hn : noteG g (kd : Int) l i = true := decide_eq_true (Or.inl c0)
        simp only [hn, if_true] at hq
        simp (disch := first | with_reducible assumption | omega | exact ga_in _ _ _ | exact gg_in _ _ _ | (unfold InR; omega) | (unfold InL; omega) | (simp only [shC_71, shC_72, shC_73, shC_74, shC_75, shC_76, shC_77, shC_78, shC_79, shL_72, shL_73, shL_74, shL_75, shL_76, shL_77, shL_78, shL_79]; first | done | omega)) only [q183_16, q183_18, q183_19, q183_22, q183_24, q183_25, q183_28, q183_30, q183_31, q183_33, q183_34, q183_35, q183_37, q183_39, q183_42, q183_43, q183_46, q183_48, q183_49, q183_50, q183_53, q183_54, q183_55, q183_58, q183_60, q183_61, q183_62, q183_63, q183_64, q183_67, q183_69, q183_70, q183_71, q183_72, q183_73, q183_76, q183_78, q183_79, q183_80, q183_81, q183_84, q183_85, q183_88, q183_90, q183_91, q183_92, q183_93, q183_96, q183_97, q183_100, q183_101, q183_103, shC_71, shC_72, shC_73, shC_74, shC_75, shC_76, shC_77, shC_78, shC_79, shL_72, shL_73, shL_74, shL_75, shL_76, shL_77, shL_78, shL_79, shR_71_0, shR_71_1, shR_71_2, shR_71_3, shR_71_4, shR_71_5, shR_71_8, shR_71_15, c221, e60, e, q0, q1, q2, q3, q4, k126, c0, pushR_I, pushR_L, pushR_R, pushR_V, InR_gg, InR_ga, InR_wr, InL_gl, InR_b, b01, b01_0, if_true, if_false, not_true_eq_false, not_false_eq_true, and_true, true_and, and_self, Sum.inl.injEq, one0, Bool.false_eq_true]
        rw [q183_106]
        exact ih (i + 1) 1 _ (by omega) (Or.inr rfl) hq
theorem l183 (hr : RW σ 72 221 g) (hg : GOK g) {l : Int} (hl : InR l) : ∀ (n i : Nat) (a : Int) (v4 v5 v6 : AV), i + n = 6 → 0 ≤ a → a < 2 ^ i → Q (.inl (orF (fun kd => allF (noteG g (kd : Int) l) 0 (g 60).toNat) i n a)) σ →
    Wp none (d + 4) 183 4 [.inr (.inr (.inl 71)), .inl l, .inl a, .inl (i : Int), v4, v5, v6] [] σ Q := by
  have g6 := hg.2.2.2.2.2.2.1.1
  intro n
  induction n with
  | zero =>
    intro i a v4 v5 v6 h h0 h1 hq
    have e : (6 : Int) ≤ (i : Int) := by omega
    have hb : a < 2 ^ 6 := by
      have : i = 6 := by omega
      subst this
      exact h1
    simp (disch := first | with_reducible assumption | omega | exact ga_in _ _ _ | exact gg_in _ _ _ | (unfold InR; omega) | (unfold InL; omega) | (simp only [shC_71, shC_72, shC_73, shC_74, shC_75, shC_76, shC_77, shC_78, shC_79, shL_72, shL_73, shL_74, shL_75, shL_76, shL_77, shL_78, shL_79]; first | done | omega)) only [q183_4, q183_5, q183_7, q183_130, q183_131, e, pushR_I, pushR_L, pushR_R, pushR_V, InR_gg, InR_ga, InR_wr, InL_gl, InR_b, b01, b01_0, if_true, if_false, not_true_eq_false, not_false_eq_true, and_true, true_and, and_self, Sum.inl.injEq, one0, Bool.false_eq_true]
    exact hq
  | succ n ih =>
    intro i a v4 v5 v6 h h0 h1 hq
    have e : ¬ (6 : Int) ≤ (i : Int) := by omega
    obtain ⟨p7, p0⟩ := bit_b (i := i) (by omega)
    have q1 : (0 : Int) ≤ 1 * 2 ^ i := by omega
    have q2 : (1 : Int) * 2 ^ i < 2147483648 := by omega
    have q3 : (1 : Int) * 2 ^ i < 4294967296 := by omega
    have q4 : (1 : Int) * 2 ^ (i : Int).toNat < 4294967296 := by rw [Int.toNat_natCast]; exact q3
    have ha : a < 64 := by omega
    simp (disch := first | with_reducible assumption | omega | exact ga_in _ _ _ | exact gg_in _ _ _ | (unfold InR; omega) | (unfold InL; omega) | (simp only [shC_71, shC_72, shC_73, shC_74, shC_75, shC_76, shC_77, shC_78, shC_79, shL_72, shL_73, shL_74, shL_75, shL_76, shL_77, shL_78, shL_79]; first | done | omega)) only [q183_4, q183_5, q183_7, q183_10, q183_11, q183_13, q183_14, e, pushR_I, pushR_L, pushR_R, pushR_V, InR_gg, InR_ga, InR_wr, InL_gl, InR_b, b01, b01_0, if_true, if_false, not_true_eq_false, not_false_eq_true, and_true, true_and, and_self, Sum.inl.injEq, one0, Bool.false_eq_true]
    refine l183b (d := d) hr hg hl (kd := i) (by omega) (g 60).toNat 0 1 _ (by omega) (Or.inr rfl) (fun v => ?_)
    rw [flg_1]
    simp only [orF] at hq
    by_cases hc : allF (noteG g (i : Int) l) 0 (g 60).toNat = true
    · simp only [hc, if_true] at hq
      obtain ⟨z1, z2⟩ := orB_lt h0 h1
      simp (disch := first | with_reducible assumption | omega | exact ga_in _ _ _ | exact gg_in _ _ _ | (unfold InR; omega) | (unfold InL; omega) | (simp only [shC_71, shC_72, shC_73, shC_74, shC_75, shC_76, shC_77, shC_78, shC_79, shL_72, shL_73, shL_74, shL_75, shL_76, shL_77, shL_78, shL_79]; first | done | omega)) only [q183_109, q183_110, q183_112, q183_115, q183_116, q183_117, q183_118, q183_121, q183_122, q183_123, q183_124, hc, Int.toNat_natCast, pushR_I, pushR_L, pushR_R, pushR_V, InR_gg, InR_ga, InR_wr, InL_gl, InR_b, b01, b01_0, if_true, if_false, not_true_eq_false, not_false_eq_true, and_true, true_and, and_self, Sum.inl.injEq, one0, Bool.false_eq_true]
      rw [q183_127]
      exact ih (i + 1) (orB a i) _ _ _ (by omega) z1 z2 hq
    · simp only [hc, Bool.false_eq_true, if_false] at hq
      simp (disch := first | with_reducible assumption | omega | exact ga_in _ _ _ | exact gg_in _ _ _ | (unfold InR; omega) | (unfold InL; omega) | (simp only [shC_71, shC_72, shC_73, shC_74, shC_75, shC_76, shC_77, shC_78, shC_79, shL_72, shL_73, shL_74, shL_75, shL_76, shL_77, shL_78, shL_79]; first | done | omega)) only [q183_109, q183_110, q183_112, q183_115, q183_116, q183_117, q183_118, q183_121, q183_122, q183_123, q183_124, hc, or_0 h0, pushR_I, pushR_L, pushR_R, pushR_V, InR_gg, InR_ga, InR_wr, InL_gl, InR_b, b01, b01_0, if_true, if_false, not_true_eq_false, not_false_eq_true, and_true, true_and, and_self, Sum.inl.injEq, one0, Bool.false_eq_true]
      rw [q183_127]
      exact ih (i + 1) a _ _ _ (by omega) h0 (by rw [Int.pow_succ]; omega) hq
theorem m183 (hr : RW σ 72 221 g) (hg : GOK g) {l : Int} (hl : InR l) : Cal (d + 5) 183 [.inr (.inr (.inl 71)), .inl l] σ (.inl (setL g l)) σ := by
  refine Cal_in (ls := [.inr (.inr (.inl 71)), .inl l, aU, aU, aU, aU, aU]) rfl mna_183 mml_183 mhl_183 rfl rfl ?_
  simp (disch := first | with_reducible assumption | omega | exact ga_in _ _ _ | exact gg_in _ _ _ | (unfold InR; omega) | (unfold InL; omega) | (simp only [shC_71, shC_72, shC_73, shC_74, shC_75, shC_76, shC_77, shC_78, shC_79, shL_72, shL_73, shL_74, shL_75, shL_76, shL_77, shL_78, shL_79]; first | done | omega)) only [q183_0, q183_1, q183_2, q183_3, pushR_I, pushR_L, pushR_R, pushR_V, InR_gg, InR_ga, InR_wr, InL_gl, InR_b, b01, b01_0, if_true, if_false, not_true_eq_false, not_false_eq_true, and_true, true_and, and_self, Sum.inl.injEq, one0, Bool.false_eq_true]
  exact l183 (d := d) hr hg hl 6 0 0 _ _ _ (by omega) (by omega) (by decide) ⟨rfl, rfl⟩
theorem k183 (hr : RW σ 72 221 g) (hg : GOK g) {l : Int} (hl : InR l) : CalK (d + 5) 183 [.inr (.inr (.inl 71)), .inl l] σ K = K (.inl (setL g l)) σ := CalK_eq (m183 hr hg hl)
theorem o184 (h : MR σ S) (hS : SOK S) {l : Int} (hl : InR l) : CalE (d + 20) 184 [.inr (.inr (.inl 71)), .inl l] σ (OPM σ (fIs S l)) := by
  have hO := MOKn h.1 (by omega) hS.1
  have e13 : ga σ 72 13 = S 0 13 := h.1 13 (by omega) (by omega)
  refine Cal_ex (ls := [.inr (.inr (.inl 71)), .inl l]) rfl mna_184 mml_184 mhl_184 rfl rfl ?_
  unfold fIs
  by_cases h1 : 0 ≤ l ∧ l < ga σ 72 13
  · have h1' : 0 ≤ l ∧ l < S 0 13 := by omega
    have hb : 0 ≤ setL (S 0) l ∧ setL (S 0) l < 128 := set_b (by omega)
    rw [if_pos h1']
    simp (disch := first | with_reducible assumption | omega | exact ga_in _ _ _ | exact gg_in _ _ _ | (unfold InR; omega) | (unfold InL; omega) | (simp only [shC_71, shC_72, shC_73, shC_74, shC_75, shC_76, shC_77, shC_78, shC_79, shL_72, shL_73, shL_74, shL_75, shL_76, shL_77, shL_78, shL_79]; first | done | omega)) only [q184_0, q184_1, q184_2, q184_5, q184_8, q184_9, q184_10, q184_13, q184_16, q184_17, q184_20, shC_71, shC_72, shC_73, shC_74, shC_75, shC_76, shC_77, shC_78, shC_79, shL_72, shL_73, shL_74, shL_75, shL_76, shL_77, shL_78, shL_79, shR_71_0, shR_71_1, shR_71_2, shR_71_3, shR_71_4, shR_71_5, shR_71_8, shR_71_15, k122 hO.1, h1, k183 h.1 hS.1, pushR_I, pushR_L, pushR_R, pushR_V, InR_gg, InR_ga, InR_wr, InL_gl, InR_b, b01, b01_0, if_true, if_false, not_true_eq_false, not_false_eq_true, and_true, true_and, and_self, Sum.inl.injEq, one0, Bool.false_eq_true]
    exact MO_id h
  · rw [if_neg (fun q => h1 (by unfold hasL at q; omega))]
    simp (disch := first | with_reducible assumption | omega | exact ga_in _ _ _ | exact gg_in _ _ _ | (unfold InR; omega) | (unfold InL; omega) | (simp only [shC_71, shC_72, shC_73, shC_74, shC_75, shC_76, shC_77, shC_78, shC_79, shL_72, shL_73, shL_74, shL_75, shL_76, shL_77, shL_78, shL_79]; first | done | omega)) only [q184_0, q184_1, q184_2, q184_5, q184_8, q184_9, q184_10, q184_13, q184_16, q184_17, q184_20, shC_71, shC_72, shC_73, shC_74, shC_75, shC_76, shC_77, shC_78, shC_79, shL_72, shL_73, shL_74, shL_75, shL_76, shL_77, shL_78, shL_79, shR_71_0, shR_71_1, shR_71_2, shR_71_3, shR_71_4, shR_71_5, shR_71_8, shR_71_15, k122 hO.1, h1, k118, pushR_I, pushR_L, pushR_R, pushR_V, InR_gg, InR_ga, InR_wr, InL_gl, InR_b, b01, b01_0, if_true, if_false, not_true_eq_false, not_false_eq_true, and_true, true_and, and_self, Sum.inl.injEq, one0, Bool.false_eq_true]
    exact MO_bad h
theorem l186b (hr : RW σ 72 221 g) (hg : GOK g) {l bits : Int} (hl : InR l) {kd : Nat} (hk : kd < 6) : ∀ (n i : Nat) (a : Int) (v6 : AV), (i : Int) + n = g 91 → (a = 0 ∨ a = 1) →
    (∀ v, Wp none (d + 4) 186 100 [.inr (.inr (.inl 71)), .inl l, .inl bits, .inl (kd : Int), .inl (flg (markG g (kd : Int) l) i n a), .inl (g 91), v] [] σ Q) →
    Wp none (d + 4) 186 16 [.inr (.inr (.inl 71)), .inl l, .inl bits, .inl (kd : Int), .inl a, .inl (i : Int), v6] [] σ Q := by
  have c221 : ((221 : Nat) : Int) = 221 := rfl
  obtain ⟨g1, g2, g3, g4, g5, -, -, ⟨g6, g6'⟩, -⟩ := hg
  have e60 : ga σ 72 91 = g 91 := hr 91 (by omega) (by omega)
  intro n
  induction n with
  | zero =>
    intro i a v6 hi ha hq
    have e : g 91 ≤ (i : Int) := by omega
    have ei : (i : Int) = g 91 := by omega
    simp (disch := first | with_reducible assumption | omega | exact ga_in _ _ _ | exact gg_in _ _ _ | (unfold InR; omega) | (unfold InL; omega) | (simp only [shC_71, shC_72, shC_73, shC_74, shC_75, shC_76, shC_77, shC_78, shC_79, shL_72, shL_73, shL_74, shL_75, shL_76, shL_77, shL_78, shL_79]; first | done | omega)) only [q186_16, q186_18, q186_19, q186_22, q186_24, q186_25, shC_71, shC_72, shC_73, shC_74, shC_75, shC_76, shC_77, shC_78, shC_79, shL_72, shL_73, shL_74, shL_75, shL_76, shL_77, shL_78, shL_79, shR_71_0, shR_71_1, shR_71_2, shR_71_3, shR_71_4, shR_71_5, shR_71_8, shR_71_15, c221, e60, e, pushR_I, pushR_L, pushR_R, pushR_V, InR_gg, InR_ga, InR_wr, InL_gl, InR_b, b01, b01_0, if_true, if_false, not_true_eq_false, not_false_eq_true, and_true, true_and, and_self, Sum.inl.injEq, one0, Bool.false_eq_true]
    rw [ei]
    exact hq v6
  | succ n ih =>
    intro i a v6 hi ha hq
    have e : ¬ g 91 ≤ (i : Int) := by omega
    obtain ⟨b0, b1, b2, b3⟩ := g6' (i : Int) (by omega) (by omega)
    have q0 : ga σ 72 (92 + 4 * (i : Int)) = g (92 + 4 * (i : Int)) := hr _ (by omega) (by omega)
    have q1 : ga σ 72 (92 + 4 * (i : Int) + 1) = g (93 + 4 * (i : Int)) := by rw [show 92 + 4 * (i : Int) + 1 = 93 + 4 * (i : Int) by omega]; exact hr _ (by omega) (by omega)
    have q2 : ga σ 72 (92 + 4 * (i : Int) + 2) = g (94 + 4 * (i : Int)) := by rw [show 92 + 4 * (i : Int) + 2 = 94 + 4 * (i : Int) by omega]; exact hr _ (by omega) (by omega)
    have q3 : ga σ 72 (92 + 4 * (i : Int) + 3) = g (95 + 4 * (i : Int)) := by rw [show 92 + 4 * (i : Int) + 3 = 95 + 4 * (i : Int) by omega]; exact hr _ (by omega) (by omega)
    have bl := tkI_b (kind := (kd : Int)) (x := g (94 + 4 * (i : Int))) (h := g (93 + 4 * (i : Int))) (by omega) (by omega)
    simp only [flg] at hq
    rcases ha with rfl | rfl
    · simp only [not_true_eq_false, false_and, if_false] at hq
      simp (disch := first | with_reducible assumption | omega | exact ga_in _ _ _ | exact gg_in _ _ _ | (unfold InR; omega) | (unfold InL; omega) | (simp only [shC_71, shC_72, shC_73, shC_74, shC_75, shC_76, shC_77, shC_78, shC_79, shL_72, shL_73, shL_74, shL_75, shL_76, shL_77, shL_78, shL_79]; first | done | omega)) only [q186_16, q186_18, q186_19, q186_22, q186_24, q186_25, q186_28, q186_30, q186_31, q186_33, q186_34, q186_35, q186_37, q186_39, q186_42, q186_43, q186_46, q186_48, q186_49, q186_50, q186_53, q186_54, q186_55, q186_58, q186_60, q186_61, q186_62, q186_63, q186_64, q186_67, q186_69, q186_70, q186_71, q186_72, q186_75, q186_76, q186_79, q186_81, q186_82, q186_83, q186_84, q186_87, q186_88, q186_91, q186_92, q186_94, shC_71, shC_72, shC_73, shC_74, shC_75, shC_76, shC_77, shC_78, shC_79, shL_72, shL_73, shL_74, shL_75, shL_76, shL_77, shL_78, shL_79, shR_71_0, shR_71_1, shR_71_2, shR_71_3, shR_71_4, shR_71_5, shR_71_8, shR_71_15, c221, e60, e, q0, q1, q2, q3, k128, false_and, pushR_I, pushR_L, pushR_R, pushR_V, InR_gg, InR_ga, InR_wr, InL_gl, InR_b, b01, b01_0, if_true, if_false, not_true_eq_false, not_false_eq_true, and_true, true_and, and_self, Sum.inl.injEq, one0, Bool.false_eq_true]
      rw [q186_97]
      exact ih (i + 1) 0 _ (by omega) (Or.inl rfl) hq
    · simp only [one0, not_false_eq_true, true_and] at hq
      by_cases c0 : g (92 + 4 * (i : Int)) = l
      · by_cases c1 : tkI (kd : Int) (g (94 + 4 * (i : Int))) (g (93 + 4 * (i : Int))) = g (95 + 4 * (i : Int))
        · have hn : markG g (kd : Int) l i = true := decide_eq_true (Or.inr c1)
          simp only [hn, if_true] at hq
          simp (disch := first | with_reducible assumption | omega | exact ga_in _ _ _ | exact gg_in _ _ _ | (unfold InR; omega) | (unfold InL; omega) | (simp only [shC_71, shC_72, shC_73, shC_74, shC_75, shC_76, shC_77, shC_78, shC_79, shL_72, shL_73, shL_74, shL_75, shL_76, shL_77, shL_78, shL_79]; first | done | omega)) only [q186_16, q186_18, q186_19, q186_22, q186_24, q186_25, q186_28, q186_30, q186_31, q186_33, q186_34, q186_35, q186_37, q186_39, q186_42, q186_43, q186_46, q186_48, q186_49, q186_50, q186_53, q186_54, q186_55, q186_58, q186_60, q186_61, q186_62, q186_63, q186_64, q186_67, q186_69, q186_70, q186_71, q186_72, q186_75, q186_76, q186_79, q186_81, q186_82, q186_83, q186_84, q186_87, q186_88, q186_91, q186_92, q186_94, shC_71, shC_72, shC_73, shC_74, shC_75, shC_76, shC_77, shC_78, shC_79, shL_72, shL_73, shL_74, shL_75, shL_76, shL_77, shL_78, shL_79, shR_71_0, shR_71_1, shR_71_2, shR_71_3, shR_71_4, shR_71_5, shR_71_8, shR_71_15, c221, e60, e, q0, q1, q2, q3, k128, c0, c1, pushR_I, pushR_L, pushR_R, pushR_V, InR_gg, InR_ga, InR_wr, InL_gl, InR_b, b01, b01_0, if_true, if_false, not_true_eq_false, not_false_eq_true, and_true, true_and, and_self, Sum.inl.injEq, one0, Bool.false_eq_true]
          rw [q186_97]
          exact ih (i + 1) 1 _ (by omega) (Or.inr rfl) hq
        · have hn : markG g (kd : Int) l i = false := decide_eq_false (fun q => q.elim (fun z => z c0) c1)
          simp only [hn, Bool.false_eq_true, if_false] at hq
          simp (disch := first | with_reducible assumption | omega | exact ga_in _ _ _ | exact gg_in _ _ _ | (unfold InR; omega) | (unfold InL; omega) | (simp only [shC_71, shC_72, shC_73, shC_74, shC_75, shC_76, shC_77, shC_78, shC_79, shL_72, shL_73, shL_74, shL_75, shL_76, shL_77, shL_78, shL_79]; first | done | omega)) only [q186_16, q186_18, q186_19, q186_22, q186_24, q186_25, q186_28, q186_30, q186_31, q186_33, q186_34, q186_35, q186_37, q186_39, q186_42, q186_43, q186_46, q186_48, q186_49, q186_50, q186_53, q186_54, q186_55, q186_58, q186_60, q186_61, q186_62, q186_63, q186_64, q186_67, q186_69, q186_70, q186_71, q186_72, q186_75, q186_76, q186_79, q186_81, q186_82, q186_83, q186_84, q186_87, q186_88, q186_91, q186_92, q186_94, shC_71, shC_72, shC_73, shC_74, shC_75, shC_76, shC_77, shC_78, shC_79, shL_72, shL_73, shL_74, shL_75, shL_76, shL_77, shL_78, shL_79, shR_71_0, shR_71_1, shR_71_2, shR_71_3, shR_71_4, shR_71_5, shR_71_8, shR_71_15, c221, e60, e, q0, q1, q2, q3, k128, c0, c1, pushR_I, pushR_L, pushR_R, pushR_V, InR_gg, InR_ga, InR_wr, InL_gl, InR_b, b01, b01_0, if_true, if_false, not_true_eq_false, not_false_eq_true, and_true, true_and, and_self, Sum.inl.injEq, one0, Bool.false_eq_true]
          rw [q186_97]
          exact ih (i + 1) 0 _ (by omega) (Or.inl rfl) hq
      · have hn : markG g (kd : Int) l i = true := decide_eq_true (Or.inl c0)
        simp only [hn, if_true] at hq
        simp (disch := first | with_reducible assumption | omega | exact ga_in _ _ _ | exact gg_in _ _ _ | (unfold InR; omega) | (unfold InL; omega) | (simp only [shC_71, shC_72, shC_73, shC_74, shC_75, shC_76, shC_77, shC_78, shC_79, shL_72, shL_73, shL_74, shL_75, shL_76, shL_77, shL_78, shL_79]; first | done | omega)) only [q186_16, q186_18, q186_19, q186_22, q186_24, q186_25, q186_28, q186_30, q186_31, q186_33, q186_34, q186_35, q186_37, q186_39, q186_42, q186_43, q186_46, q186_48, q186_49, q186_50, q186_53, q186_54, q186_55, q186_58, q186_60, q186_61, q186_62, q186_63, q186_64, q186_67, q186_69, q186_70, q186_71, q186_72, q186_75, q186_76, q186_79, q186_81, q186_82, q186_83, q186_84, q186_87, q186_88, q186_91, q186_92, q186_94, shC_71, shC_72, shC_73, shC_74, shC_75, shC_76, shC_77, shC_78, shC_79, shL_72, shL_73, shL_74, shL_75, shL_76, shL_77, shL_78, shL_79, shR_71_0, shR_71_1, shR_71_2, shR_71_3, shR_71_4, shR_71_5, shR_71_8, shR_71_15, c221, e60, e, q0, q1, q2, q3, k128, c0, pushR_I, pushR_L, pushR_R, pushR_V, InR_gg, InR_ga, InR_wr, InL_gl, InR_b, b01, b01_0, if_true, if_false, not_true_eq_false, not_false_eq_true, and_true, true_and, and_self, Sum.inl.injEq, one0, Bool.false_eq_true]
        rw [q186_97]
        exact ih (i + 1) 1 _ (by omega) (Or.inr rfl) hq
theorem l186 (hr : RW σ 72 221 g) (hg : GOK g) {l : Int} (hl : InR l) : ∀ (n i : Nat) (a : Int) (v4 v5 v6 : AV), i + n = 6 → 0 ≤ a → a < 2 ^ i → Q (.inl (orF (fun kd => allF (markG g (kd : Int) l) 0 (g 91).toNat) i n a)) σ →
    Wp none (d + 4) 186 4 [.inr (.inr (.inl 71)), .inl l, .inl a, .inl (i : Int), v4, v5, v6] [] σ Q := by
  have g6 := hg.2.2.2.2.2.2.2.1.1
  intro n
  induction n with
  | zero =>
    intro i a v4 v5 v6 h h0 h1 hq
    have e : (6 : Int) ≤ (i : Int) := by omega
    have hb : a < 2 ^ 6 := by
      have : i = 6 := by omega
      subst this
      exact h1
    simp (disch := first | with_reducible assumption | omega | exact ga_in _ _ _ | exact gg_in _ _ _ | (unfold InR; omega) | (unfold InL; omega) | (simp only [shC_71, shC_72, shC_73, shC_74, shC_75, shC_76, shC_77, shC_78, shC_79, shL_72, shL_73, shL_74, shL_75, shL_76, shL_77, shL_78, shL_79]; first | done | omega)) only [q186_4, q186_5, q186_7, q186_121, q186_122, e, pushR_I, pushR_L, pushR_R, pushR_V, InR_gg, InR_ga, InR_wr, InL_gl, InR_b, b01, b01_0, if_true, if_false, not_true_eq_false, not_false_eq_true, and_true, true_and, and_self, Sum.inl.injEq, one0, Bool.false_eq_true]
    exact hq
  | succ n ih =>
    intro i a v4 v5 v6 h h0 h1 hq
    have e : ¬ (6 : Int) ≤ (i : Int) := by omega
    obtain ⟨p7, p0⟩ := bit_b (i := i) (by omega)
    have q1 : (0 : Int) ≤ 1 * 2 ^ i := by omega
    have q2 : (1 : Int) * 2 ^ i < 2147483648 := by omega
    have q3 : (1 : Int) * 2 ^ i < 4294967296 := by omega
    have q4 : (1 : Int) * 2 ^ (i : Int).toNat < 4294967296 := by rw [Int.toNat_natCast]; exact q3
    have ha : a < 64 := by omega
    simp (disch := first | with_reducible assumption | omega | exact ga_in _ _ _ | exact gg_in _ _ _ | (unfold InR; omega) | (unfold InL; omega) | (simp only [shC_71, shC_72, shC_73, shC_74, shC_75, shC_76, shC_77, shC_78, shC_79, shL_72, shL_73, shL_74, shL_75, shL_76, shL_77, shL_78, shL_79]; first | done | omega)) only [q186_4, q186_5, q186_7, q186_10, q186_11, q186_13, q186_14, e, pushR_I, pushR_L, pushR_R, pushR_V, InR_gg, InR_ga, InR_wr, InL_gl, InR_b, b01, b01_0, if_true, if_false, not_true_eq_false, not_false_eq_true, and_true, true_and, and_self, Sum.inl.injEq, one0, Bool.false_eq_true]
    refine l186b (d := d) hr hg hl (kd := i) (by omega) (g 91).toNat 0 1 _ (by omega) (Or.inr rfl) (fun v => ?_)
    rw [flg_1]
    simp only [orF] at hq
    by_cases hc : allF (markG g (i : Int) l) 0 (g 91).toNat = true
    · simp only [hc, if_true] at hq
      obtain ⟨z1, z2⟩ := orB_lt h0 h1
      simp (disch := first | with_reducible assumption | omega | exact ga_in _ _ _ | exact gg_in _ _ _ | (unfold InR; omega) | (unfold InL; omega) | (simp only [shC_71, shC_72, shC_73, shC_74, shC_75, shC_76, shC_77, shC_78, shC_79, shL_72, shL_73, shL_74, shL_75, shL_76, shL_77, shL_78, shL_79]; first | done | omega)) only [q186_100, q186_101, q186_103, q186_106, q186_107, q186_108, q186_109, q186_112, q186_113, q186_114, q186_115, hc, Int.toNat_natCast, pushR_I, pushR_L, pushR_R, pushR_V, InR_gg, InR_ga, InR_wr, InL_gl, InR_b, b01, b01_0, if_true, if_false, not_true_eq_false, not_false_eq_true, and_true, true_and, and_self, Sum.inl.injEq, one0, Bool.false_eq_true]
      rw [q186_118]
      exact ih (i + 1) (orB a i) _ _ _ (by omega) z1 z2 hq
    · simp only [hc, Bool.false_eq_true, if_false] at hq
      simp (disch := first | with_reducible assumption | omega | exact ga_in _ _ _ | exact gg_in _ _ _ | (unfold InR; omega) | (unfold InL; omega) | (simp only [shC_71, shC_72, shC_73, shC_74, shC_75, shC_76, shC_77, shC_78, shC_79, shL_72, shL_73, shL_74, shL_75, shL_76, shL_77, shL_78, shL_79]; first | done | omega)) only [q186_100, q186_101, q186_103, q186_106, q186_107, q186_108, q186_109, q186_112, q186_113, q186_114, q186_115, hc, or_0 h0, pushR_I, pushR_L, pushR_R, pushR_V, InR_gg, InR_ga, InR_wr, InL_gl, InR_b, b01, b01_0, if_true, if_false, not_true_eq_false, not_false_eq_true, and_true, true_and, and_self, Sum.inl.injEq, one0, Bool.false_eq_true]
      rw [q186_118]
      exact ih (i + 1) a _ _ _ (by omega) h0 (by rw [Int.pow_succ]; omega) hq
theorem m186 (hr : RW σ 72 221 g) (hg : GOK g) {l : Int} (hl : InR l) : Cal (d + 5) 186 [.inr (.inr (.inl 71)), .inl l] σ (.inl (setO g l)) σ := by
  refine Cal_in (ls := [.inr (.inr (.inl 71)), .inl l, aU, aU, aU, aU, aU]) rfl mna_186 mml_186 mhl_186 rfl rfl ?_
  simp (disch := first | with_reducible assumption | omega | exact ga_in _ _ _ | exact gg_in _ _ _ | (unfold InR; omega) | (unfold InL; omega) | (simp only [shC_71, shC_72, shC_73, shC_74, shC_75, shC_76, shC_77, shC_78, shC_79, shL_72, shL_73, shL_74, shL_75, shL_76, shL_77, shL_78, shL_79]; first | done | omega)) only [q186_0, q186_1, q186_2, q186_3, pushR_I, pushR_L, pushR_R, pushR_V, InR_gg, InR_ga, InR_wr, InL_gl, InR_b, b01, b01_0, if_true, if_false, not_true_eq_false, not_false_eq_true, and_true, true_and, and_self, Sum.inl.injEq, one0, Bool.false_eq_true]
  exact l186 (d := d) hr hg hl 6 0 0 _ _ _ (by omega) (by omega) (by decide) ⟨rfl, rfl⟩
theorem k186 (hr : RW σ 72 221 g) (hg : GOK g) {l : Int} (hl : InR l) : CalK (d + 5) 186 [.inr (.inr (.inl 71)), .inl l] σ K = K (.inl (setO g l)) σ := CalK_eq (m186 hr hg hl)
theorem o187 (h : MR σ S) (hS : SOK S) {o : Int} (ho : InR o) : CalE (d + 20) 187 [.inr (.inr (.inl 71)), .inl o] σ (OPM σ (fKinds S o)) := by
  have hO := MOKn h.1 (by omega) hS.1
  have e28 : ga σ 72 28 = S 0 28 := h.1 28 (by omega) (by omega)
  refine Cal_ex (ls := [.inr (.inr (.inl 71)), .inl o]) rfl mna_187 mml_187 mhl_187 rfl rfl ?_
  unfold fKinds
  by_cases h1 : 0 ≤ o ∧ o < ga σ 72 28
  · have h1' : 0 ≤ o ∧ o < S 0 28 := by omega
    have hb : 0 ≤ setO (S 0) o ∧ setO (S 0) o < 128 := set_b (by omega)
    rw [if_pos h1']
    simp (disch := first | with_reducible assumption | omega | exact ga_in _ _ _ | exact gg_in _ _ _ | (unfold InR; omega) | (unfold InL; omega) | (simp only [shC_71, shC_72, shC_73, shC_74, shC_75, shC_76, shC_77, shC_78, shC_79, shL_72, shL_73, shL_74, shL_75, shL_76, shL_77, shL_78, shL_79]; first | done | omega)) only [q187_0, q187_1, q187_2, q187_5, q187_8, q187_9, q187_10, q187_13, q187_16, q187_17, q187_20, shC_71, shC_72, shC_73, shC_74, shC_75, shC_76, shC_77, shC_78, shC_79, shL_72, shL_73, shL_74, shL_75, shL_76, shL_77, shL_78, shL_79, shR_71_0, shR_71_1, shR_71_2, shR_71_3, shR_71_4, shR_71_5, shR_71_8, shR_71_15, k123 hO.2.1, h1, k186 h.1 hS.1, pushR_I, pushR_L, pushR_R, pushR_V, InR_gg, InR_ga, InR_wr, InL_gl, InR_b, b01, b01_0, if_true, if_false, not_true_eq_false, not_false_eq_true, and_true, true_and, and_self, Sum.inl.injEq, one0, Bool.false_eq_true]
    exact MO_id h
  · rw [if_neg (fun q => h1 (by unfold hasO at q; omega))]
    simp (disch := first | with_reducible assumption | omega | exact ga_in _ _ _ | exact gg_in _ _ _ | (unfold InR; omega) | (unfold InL; omega) | (simp only [shC_71, shC_72, shC_73, shC_74, shC_75, shC_76, shC_77, shC_78, shC_79, shL_72, shL_73, shL_74, shL_75, shL_76, shL_77, shL_78, shL_79]; first | done | omega)) only [q187_0, q187_1, q187_2, q187_5, q187_8, q187_9, q187_10, q187_13, q187_16, q187_17, q187_20, shC_71, shC_72, shC_73, shC_74, shC_75, shC_76, shC_77, shC_78, shC_79, shL_72, shL_73, shL_74, shL_75, shL_76, shL_77, shL_78, shL_79, shR_71_0, shR_71_1, shR_71_2, shR_71_3, shR_71_4, shR_71_5, shR_71_8, shR_71_15, k123 hO.2.1, h1, k118, pushR_I, pushR_L, pushR_R, pushR_V, InR_gg, InR_ga, InR_wr, InL_gl, InR_b, b01, b01_0, if_true, if_false, not_true_eq_false, not_false_eq_true, and_true, true_and, and_self, Sum.inl.injEq, one0, Bool.false_eq_true]
    exact MO_bad h
def likR (p : Nat → Bool) (f : Nat → Int) (i j : Nat) : Int := if (p i = true ∧ p j = true) ∧ f i = f j then 1 else 0
theorem l177b {x : Int} (hx : 0 ≤ x ∧ x < 128) {most : Int} {i : Nat} (hi : i < 7) : ∀ (n j : Nat) (a : Int), j + n = 7 → 0 ≤ a ∧ a ≤ j →
    Wp none (d + 1) 177 16 [.inr (.inr (.inl 71)), .inl x, .inl most, .inl (i : Int), .inl a, .inl (j : Int)] [] σ Q = Wp none (d + 1) 177 72 [.inr (.inr (.inl 71)), .inl x, .inl most, .inl (i : Int), .inl (a + sumF (likR (hasb x) (fun i => ga σ 79 (i : Int)) i) j n), .inl 7] [] σ Q := by
  have hx2 : 0 ≤ x ∧ x < 2147483648 := by omega
  have c7 : ((7 : Nat) : Int) = 7 := rfl
  intro n
  induction n with
  | zero =>
    intro j a hj ha
    have e : j = 7 := by omega
    subst e
    simp (disch := first | with_reducible assumption | omega | exact ga_in _ _ _ | exact gg_in _ _ _ | (unfold InR; omega) | (unfold InL; omega) | (simp only [shC_71, shC_72, shC_73, shC_74, shC_75, shC_76, shC_77, shC_78, shC_79, shL_72, shL_73, shL_74, shL_75, shL_76, shL_77, shL_78, shL_79]; first | done | omega)) only [q177_16, q177_18, q177_20, c7, Int.le_refl, sumF, Int.add_zero, pushR_I, pushR_L, pushR_R, pushR_V, InR_gg, InR_ga, InR_wr, InL_gl, InR_b, b01, b01_0, if_true, if_false, not_true_eq_false, not_false_eq_true, and_true, true_and, and_self, Sum.inl.injEq, one0, Bool.false_eq_true]
  | succ n ih =>
    intro j a hj ha
    have e : ¬ (7 : Int) ≤ (j : Int) := by omega
    have hpi : (x / 2 ^ (i : Int).toNat % 2 = 1) = (hasb x i = true) := by unfold hasb; rw [Int.toNat_natCast]; simp
    have hpj : (x / 2 ^ (j : Int).toNat % 2 = 1) = (hasb x j = true) := by unfold hasb; rw [Int.toNat_natCast]; simp
    by_cases c1 : hasb x i = true
    · by_cases c2 : hasb x j = true
      · by_cases c3 : ga σ 79 (i : Int) = ga σ 79 (j : Int)
        · simp (disch := first | with_reducible assumption | omega | exact ga_in _ _ _ | exact gg_in _ _ _ | (unfold InR; omega) | (unfold InL; omega) | (simp only [shC_71, shC_72, shC_73, shC_74, shC_75, shC_76, shC_77, shC_78, shC_79, shL_72, shL_73, shL_74, shL_75, shL_76, shL_77, shL_78, shL_79]; first | done | omega)) only [q177_16, q177_18, q177_20, q177_23, q177_25, q177_26, q177_27, q177_30, q177_33, q177_34, q177_36, q177_39, q177_42, q177_43, q177_46, q177_47, q177_48, q177_49, q177_52, q177_54, q177_55, q177_58, q177_59, q177_62, q177_63, q177_64, q177_66, shC_71, shC_72, shC_73, shC_74, shC_75, shC_76, shC_77, shC_78, shC_79, shL_72, shL_73, shL_74, shL_75, shL_76, shL_77, shL_78, shL_79, shR_71_0, shR_71_1, shR_71_2, shR_71_3, shR_71_4, shR_71_5, shR_71_8, shR_71_15, c7, e, k117 hx2, hpi, hpj, c1, c2, c3, pushR_I, pushR_L, pushR_R, pushR_V, InR_gg, InR_ga, InR_wr, InL_gl, InR_b, b01, b01_0, if_true, if_false, not_true_eq_false, not_false_eq_true, and_true, true_and, and_self, Sum.inl.injEq, one0, Bool.false_eq_true]
          rw [q177_69]
          refine (ih (j + 1) (a + 1) (by omega) (by omega)).trans ?_
          have el : likR (hasb x) (fun i => ga σ 79 (i : Int)) i j = 1 := if_pos ⟨⟨c1, c2⟩, c3⟩
          simp only [sumF]
          rw [el, Int.add_assoc]
        · simp (disch := first | with_reducible assumption | omega | exact ga_in _ _ _ | exact gg_in _ _ _ | (unfold InR; omega) | (unfold InL; omega) | (simp only [shC_71, shC_72, shC_73, shC_74, shC_75, shC_76, shC_77, shC_78, shC_79, shL_72, shL_73, shL_74, shL_75, shL_76, shL_77, shL_78, shL_79]; first | done | omega)) only [q177_16, q177_18, q177_20, q177_23, q177_25, q177_26, q177_27, q177_30, q177_33, q177_34, q177_36, q177_39, q177_42, q177_43, q177_46, q177_47, q177_48, q177_49, q177_52, q177_54, q177_55, q177_58, q177_59, q177_62, q177_63, q177_64, q177_66, shC_71, shC_72, shC_73, shC_74, shC_75, shC_76, shC_77, shC_78, shC_79, shL_72, shL_73, shL_74, shL_75, shL_76, shL_77, shL_78, shL_79, shR_71_0, shR_71_1, shR_71_2, shR_71_3, shR_71_4, shR_71_5, shR_71_8, shR_71_15, c7, e, k117 hx2, hpi, hpj, c1, c2, c3, Int.add_zero, pushR_I, pushR_L, pushR_R, pushR_V, InR_gg, InR_ga, InR_wr, InL_gl, InR_b, b01, b01_0, if_true, if_false, not_true_eq_false, not_false_eq_true, and_true, true_and, and_self, Sum.inl.injEq, one0, Bool.false_eq_true]
          rw [q177_69]
          refine (ih (j + 1) a (by omega) (by omega)).trans ?_
          have el : likR (hasb x) (fun i => ga σ 79 (i : Int)) i j = 0 := if_neg (fun q => c3 q.2)
          simp only [sumF]
          rw [el, Int.zero_add]
      · simp (disch := first | with_reducible assumption | omega | exact ga_in _ _ _ | exact gg_in _ _ _ | (unfold InR; omega) | (unfold InL; omega) | (simp only [shC_71, shC_72, shC_73, shC_74, shC_75, shC_76, shC_77, shC_78, shC_79, shL_72, shL_73, shL_74, shL_75, shL_76, shL_77, shL_78, shL_79]; first | done | omega)) only [q177_16, q177_18, q177_20, q177_23, q177_25, q177_26, q177_27, q177_30, q177_33, q177_34, q177_36, q177_39, q177_42, q177_43, q177_46, q177_47, q177_48, q177_49, q177_52, q177_54, q177_55, q177_58, q177_59, q177_62, q177_63, q177_64, q177_66, shC_71, shC_72, shC_73, shC_74, shC_75, shC_76, shC_77, shC_78, shC_79, shL_72, shL_73, shL_74, shL_75, shL_76, shL_77, shL_78, shL_79, shR_71_0, shR_71_1, shR_71_2, shR_71_3, shR_71_4, shR_71_5, shR_71_8, shR_71_15, c7, e, k117 hx2, hpi, hpj, c1, c2, Int.add_zero, pushR_I, pushR_L, pushR_R, pushR_V, InR_gg, InR_ga, InR_wr, InL_gl, InR_b, b01, b01_0, if_true, if_false, not_true_eq_false, not_false_eq_true, and_true, true_and, and_self, Sum.inl.injEq, one0, Bool.false_eq_true]
        rw [q177_69]
        refine (ih (j + 1) a (by omega) (by omega)).trans ?_
        have el : likR (hasb x) (fun i => ga σ 79 (i : Int)) i j = 0 := if_neg (fun q => c2 q.1.2)
        simp only [sumF]
        rw [el, Int.zero_add]
    · simp (disch := first | with_reducible assumption | omega | exact ga_in _ _ _ | exact gg_in _ _ _ | (unfold InR; omega) | (unfold InL; omega) | (simp only [shC_71, shC_72, shC_73, shC_74, shC_75, shC_76, shC_77, shC_78, shC_79, shL_72, shL_73, shL_74, shL_75, shL_76, shL_77, shL_78, shL_79]; first | done | omega)) only [q177_16, q177_18, q177_20, q177_23, q177_25, q177_26, q177_27, q177_30, q177_33, q177_34, q177_36, q177_39, q177_42, q177_43, q177_46, q177_47, q177_48, q177_49, q177_52, q177_54, q177_55, q177_58, q177_59, q177_62, q177_63, q177_64, q177_66, shC_71, shC_72, shC_73, shC_74, shC_75, shC_76, shC_77, shC_78, shC_79, shL_72, shL_73, shL_74, shL_75, shL_76, shL_77, shL_78, shL_79, shR_71_0, shR_71_1, shR_71_2, shR_71_3, shR_71_4, shR_71_5, shR_71_8, shR_71_15, c7, e, k117 hx2, hpi, hpj, c1, Int.add_zero, pushR_I, pushR_L, pushR_R, pushR_V, InR_gg, InR_ga, InR_wr, InL_gl, InR_b, b01, b01_0, if_true, if_false, not_true_eq_false, not_false_eq_true, and_true, true_and, and_self, Sum.inl.injEq, one0, Bool.false_eq_true]
      rw [q177_69]
      refine (ih (j + 1) a (by omega) (by omega)).trans ?_
      have el : likR (hasb x) (fun i => ga σ 79 (i : Int)) i j = 0 := if_neg (fun q => c1 q.1.1)
      simp only [sumF]
      rw [el, Int.zero_add]
theorem likR_b {p : Nat → Bool} {f : Nat → Int} {i : Nat} (n : Nat) : 0 ≤ sumF (likR p f i) 0 n ∧ sumF (likR p f i) 0 n ≤ n := by
  have := sumF_b (f := likR p f i) (B := 1) n 0 (fun j => by unfold likR; split <;> omega)
  omega
theorem l177 {x : Int} (hx : 0 ≤ x ∧ x < 128) : ∀ (n i : Nat) (a : Int) (v4 v5 : AV), i + n = 7 → 0 ≤ a ∧ a ≤ 7 →
    Wp none (d + 1) 177 4 [.inr (.inr (.inl 71)), .inl x, .inl a, .inl (i : Int), v4, v5] [] σ Q = Q (.inl (mxF (fun i => sumF (likR (hasb x) (fun i => ga σ 79 (i : Int)) i) 0 7) i n a)) σ := by
  intro n
  induction n with
  | zero =>
    intro i a v4 v5 hi ha
    have e : (7 : Int) ≤ (i : Int) := by omega
    simp (disch := first | with_reducible assumption | omega | exact ga_in _ _ _ | exact gg_in _ _ _ | (unfold InR; omega) | (unfold InL; omega) | (simp only [shC_71, shC_72, shC_73, shC_74, shC_75, shC_76, shC_77, shC_78, shC_79, shL_72, shL_73, shL_74, shL_75, shL_76, shL_77, shL_78, shL_79]; first | done | omega)) only [q177_4, q177_5, q177_7, q177_91, q177_92, e, mxF, pushR_I, pushR_L, pushR_R, pushR_V, InR_gg, InR_ga, InR_wr, InL_gl, InR_b, b01, b01_0, if_true, if_false, not_true_eq_false, not_false_eq_true, and_true, true_and, and_self, Sum.inl.injEq, one0, Bool.false_eq_true]
  | succ n ih =>
    intro i a v4 v5 hi ha
    have e : ¬ (7 : Int) ≤ (i : Int) := by omega
    simp (disch := first | with_reducible assumption | omega | exact ga_in _ _ _ | exact gg_in _ _ _ | (unfold InR; omega) | (unfold InL; omega) | (simp only [shC_71, shC_72, shC_73, shC_74, shC_75, shC_76, shC_77, shC_78, shC_79, shL_72, shL_73, shL_74, shL_75, shL_76, shL_77, shL_78, shL_79]; first | done | omega)) only [q177_4, q177_5, q177_7, q177_10, q177_11, q177_13, q177_14, e, pushR_I, pushR_L, pushR_R, pushR_V, InR_gg, InR_ga, InR_wr, InL_gl, InR_b, b01, b01_0, if_true, if_false, not_true_eq_false, not_false_eq_true, and_true, true_and, and_self, Sum.inl.injEq, one0, Bool.false_eq_true]
    refine (l177b (d := d) (σ := σ) hx (i := i) (by omega) 7 0 0 (by omega) (by omega)).trans ?_
    rw [Int.zero_add]
    have hb := likR_b (p := hasb x) (f := fun i => ga σ 79 (i : Int)) (i := i) 7
    simp only [mxF]
    by_cases c : a < sumF (likR (hasb x) (fun i => ga σ 79 (i : Int)) i) 0 7
    · have c' : ¬ sumF (likR (hasb x) (fun i => ga σ 79 (i : Int)) i) 0 7 ≤ a := by omega
      rw [if_pos c]
      simp (disch := first | with_reducible assumption | omega | exact ga_in _ _ _ | exact gg_in _ _ _ | (unfold InR; omega) | (unfold InL; omega) | (simp only [shC_71, shC_72, shC_73, shC_74, shC_75, shC_76, shC_77, shC_78, shC_79, shL_72, shL_73, shL_74, shL_75, shL_76, shL_77, shL_78, shL_79]; first | done | omega)) only [q177_72, q177_74, q177_75, q177_78, q177_80, q177_83, q177_84, q177_85, c', pushR_I, pushR_L, pushR_R, pushR_V, InR_gg, InR_ga, InR_wr, InL_gl, InR_b, b01, b01_0, if_true, if_false, not_true_eq_false, not_false_eq_true, and_true, true_and, and_self, Sum.inl.injEq, one0, Bool.false_eq_true]
      rw [q177_88]
      exact ih (i + 1) _ _ _ (by omega) (by omega)
    · have c' : sumF (likR (hasb x) (fun i => ga σ 79 (i : Int)) i) 0 7 ≤ a := by omega
      rw [if_neg c]
      simp (disch := first | with_reducible assumption | omega | exact ga_in _ _ _ | exact gg_in _ _ _ | (unfold InR; omega) | (unfold InL; omega) | (simp only [shC_71, shC_72, shC_73, shC_74, shC_75, shC_76, shC_77, shC_78, shC_79, shL_72, shL_73, shL_74, shL_75, shL_76, shL_77, shL_78, shL_79]; first | done | omega)) only [q177_72, q177_74, q177_75, q177_78, q177_80, q177_83, q177_84, q177_85, c', pushR_I, pushR_L, pushR_R, pushR_V, InR_gg, InR_ga, InR_wr, InL_gl, InR_b, b01, b01_0, if_true, if_false, not_true_eq_false, not_false_eq_true, and_true, true_and, and_self, Sum.inl.injEq, one0, Bool.false_eq_true]
      rw [q177_88]
      exact ih (i + 1) a _ _ (by omega) ha
theorem m177 {x : Int} (hx : 0 ≤ x ∧ x < 128) : Cal (d + 2) 177 [.inr (.inr (.inl 71)), .inl x] σ (.inl (mostL (cmpF (hasb x) (fun i => ga σ 79 (i : Int)) 0 7))) σ := by
  refine Cal_in (ls := [.inr (.inr (.inl 71)), .inl x, aU, aU, aU, aU]) rfl mna_177 mml_177 mhl_177 rfl rfl ?_
  simp (disch := first | with_reducible assumption | omega | exact ga_in _ _ _ | exact gg_in _ _ _ | (unfold InR; omega) | (unfold InL; omega) | (simp only [shC_71, shC_72, shC_73, shC_74, shC_75, shC_76, shC_77, shC_78, shC_79, shL_72, shL_73, shL_74, shL_75, shL_76, shL_77, shL_78, shL_79]; first | done | omega)) only [q177_0, q177_1, q177_2, q177_3, pushR_I, pushR_L, pushR_R, pushR_V, InR_gg, InR_ga, InR_wr, InL_gl, InR_b, b01, b01_0, if_true, if_false, not_true_eq_false, not_false_eq_true, and_true, true_and, and_self, Sum.inl.injEq, one0, Bool.false_eq_true]
  rw [← most_ref]
  exact (l177 (d := d) (σ := σ) hx 7 0 0 _ _ (by omega) (by omega)).mpr ⟨rfl, rfl⟩
theorem k177 {x : Int} (hx : 0 ≤ x ∧ x < 128) : CalK (d + 2) 177 [.inr (.inr (.inl 71)), .inl x] σ K = K (.inl (mostL (cmpF (hasb x) (fun i => ga σ 79 (i : Int)) 0 7))) σ := CalK_eq (m177 hx)
end MOPS4
