-- the class's read
def txB (S : Nat → Int → Int) (p : Nat) : Int := if (p : Int) < S 4 2 then S 3 (p : Int) else -1
def fRead (S : Nat → Int → Int) : AS := if 0 ≤ (parF (txB S) (S 4 2).toNat).1 then ((parF (txB S) (S 4 2).toNat).1, setR S (parF (txB S) (S 4 2).toNat).2) else ((parF (txB S) (S 4 2).toNat).1, S)
section READC2
variable {d : Nat} {σ : SG} {b : Nat → Int} {N : Nat} {K : AV → SG → Prop} {Q : AV → SG → Prop} {S : Nat → Int → Int}
/-- what a reading leaves -/
def RDR (σ : SG) (R : Int × (Int → Int)) (r : AV) (τ : SG) : Prop := r = .inl R.1 ∧ FRM σ τ ∧ TRc τ 15 R.2
theorem l8 : ∀ (k : Nat) (items : Int) (p : Nat) (g : Int → Int) (τ : SG), TXC τ b N → p ≤ N → RDC τ b N p → TRc τ 15 g → ROK g → N + 1 ≤ p + k → (1 ≤ items ∧ items ≤ p) →
    (∀ r υ, RDR τ (parL b N k items p g) r υ → Q r υ) → Wp none (d + 9) 8 46 [.inr (.inr (.inl 59)), .inr (.inr (.inl 15)), .inl items] [] τ Q := by
  intro k
  induction k with
  | zero => intro items p g τ hX hp hR hT hg hk hi hq; omega
  | succ k ih =>
    intro items p g τ hX hp hR hT hg hk hi hq
    have hN := hX.2.2.1
    have ht := tok_b hX.2.2 hp
    have htS := tS_b (b := b) hp
    have e4 : gg τ 59 4 = tK b N p := hR.2.2.1
    simp only [parL] at hq
    by_cases cz : tK b N p = 0
    · rw [if_pos cz] at hq
      have e4' : gg τ 59 4 = 0 := e4.trans cz
      simp (disch := first | with_reducible assumption | omega | exact ga_in _ _ _ | exact gg_in _ _ _ | (unfold InR; omega) | (unfold InL; omega) | (simp only [shC_0, shC_1, shC_2, shC_3, shC_4, shC_5, shC_6, shC_7, shC_8, shC_9, shC_10, shC_11, shC_12, shC_13, shC_14, shC_15, shC_30, shC_44, shC_29, shC_58, shC_59, shC_60, shC_61, shC_62, shC_63, shC_64, shC_65, shC_66, shC_67, shC_68, shC_69, shC_70, shL_2, shL_3, shL_4, shL_5, shL_6, shL_8, shL_10, shL_12, shL_14, shL_29, shL_58, shL_60, shL_62, shL_63, shL_65, shL_66, shL_67, shL_68, shL_69, shL_70]; first | done | omega)) only [q8_46, q8_47, q8_50, q8_53, q8_54, q8_57, q8_100, q8_101, shC_0, shC_1, shC_2, shC_3, shC_4, shC_5, shC_6, shC_7, shC_8, shC_9, shC_10, shC_11, shC_12, shC_13, shC_14, shC_15, shC_30, shC_44, shC_29, shC_58, shC_59, shC_60, shC_61, shC_62, shC_63, shC_64, shC_65, shC_66, shC_67, shC_68, shC_69, shC_70, shL_2, shL_3, shL_4, shL_5, shL_6, shL_8, shL_10, shL_12, shL_14, shL_29, shL_58, shL_60, shL_62, shL_63, shL_65, shL_66, shL_67, shL_68, shL_69, shL_70, shR_0_0, shR_0_1, shR_0_2, shR_0_3, shR_0_4, shR_0_5, shR_0_6, shR_0_7, shR_1_3, shR_1_4, shR_1_5, shR_1_6, shR_1_7, shR_1_8, shR_1_9, shR_1_10, shR_1_11, shR_7_2, shR_9_2, shR_11_2, shR_13_0, shR_59_0, shR_61_0, shR_61_1, shR_61_2, shR_64_0, shR_64_1, shR_64_2, shR_64_3, shR_64_4, shR_64_5, e4', pushR_I, pushR_L, pushR_R, pushR_V, InR_gg, InR_ga, InR_wr, InL_gl, InR_b, b01, b01_0, if_true, if_false, not_true_eq_false, not_false_eq_true, and_true, true_and, and_self, Sum.inl.injEq, one0, Bool.false_eq_true]
      exact hq _ _ ⟨rfl, FRM_refl _, hT⟩
    · rw [if_neg cz] at hq
      have e4' : ¬ gg τ 59 4 = 0 := by rw [e4]; exact cz
      have hlt := ht.2.2.1 cz
      have e150 : ¬ (150 : Int) < items := by omega
      have hok := itF_ok hX.2.2 hp cz hg
      simp (disch := first | with_reducible assumption | omega | exact ga_in _ _ _ | exact gg_in _ _ _ | (unfold InR; omega) | (unfold InL; omega) | (simp only [shC_0, shC_1, shC_2, shC_3, shC_4, shC_5, shC_6, shC_7, shC_8, shC_9, shC_10, shC_11, shC_12, shC_13, shC_14, shC_15, shC_30, shC_44, shC_29, shC_58, shC_59, shC_60, shC_61, shC_62, shC_63, shC_64, shC_65, shC_66, shC_67, shC_68, shC_69, shC_70, shL_2, shL_3, shL_4, shL_5, shL_6, shL_8, shL_10, shL_12, shL_14, shL_29, shL_58, shL_60, shL_62, shL_63, shL_65, shL_66, shL_67, shL_68, shL_69, shL_70]; first | done | omega)) only [q8_46, q8_47, q8_50, q8_53, q8_54, q8_57, q8_60, q8_61, q8_62, shC_0, shC_1, shC_2, shC_3, shC_4, shC_5, shC_6, shC_7, shC_8, shC_9, shC_10, shC_11, shC_12, shC_13, shC_14, shC_15, shC_30, shC_44, shC_29, shC_58, shC_59, shC_60, shC_61, shC_62, shC_63, shC_64, shC_65, shC_66, shC_67, shC_68, shC_69, shC_70, shL_2, shL_3, shL_4, shL_5, shL_6, shL_8, shL_10, shL_12, shL_14, shL_29, shL_58, shL_60, shL_62, shL_63, shL_65, shL_66, shL_67, shL_68, shL_69, shL_70, shR_0_0, shR_0_1, shR_0_2, shR_0_3, shR_0_4, shR_0_5, shR_0_6, shR_0_7, shR_1_3, shR_1_4, shR_1_5, shR_1_6, shR_1_7, shR_1_8, shR_1_9, shR_1_10, shR_1_11, shR_7_2, shR_9_2, shR_11_2, shR_13_0, shR_59_0, shR_61_0, shR_61_1, shR_61_2, shR_64_0, shR_64_1, shR_64_2, shR_64_3, shR_64_4, shR_64_5, e4', e150, pushR_I, pushR_L, pushR_R, pushR_V, InR_gg, InR_ga, InR_wr, InL_gl, InR_b, b01, b01_0, if_true, if_false, not_true_eq_false, not_false_eq_true, and_true, true_and, and_self, Sum.inl.injEq, one0, Bool.false_eq_true]
      refine CalK_E (m10 (d := d) hX hp hR hT hg) (fun r υ hP => ?_)
      generalize itF b N p g = R at hq hok hP
      obtain ⟨rfl, hF, hR2, hT2⟩ := hP
      have hX2 := TXC_FRM hX hF
      have ht2 := tok_b hX.2.2 hok.2.1
      have htS2 := tS_b (b := b) hok.2.1
      by_cases c1 : R.1 = true
      · rw [if_pos c1] at hq
        simp (disch := first | with_reducible assumption | omega | exact ga_in _ _ _ | exact gg_in _ _ _ | (unfold InR; omega) | (unfold InL; omega) | (simp only [shC_0, shC_1, shC_2, shC_3, shC_4, shC_5, shC_6, shC_7, shC_8, shC_9, shC_10, shC_11, shC_12, shC_13, shC_14, shC_15, shC_30, shC_44, shC_29, shC_58, shC_59, shC_60, shC_61, shC_62, shC_63, shC_64, shC_65, shC_66, shC_67, shC_68, shC_69, shC_70, shL_2, shL_3, shL_4, shL_5, shL_6, shL_8, shL_10, shL_12, shL_14, shL_29, shL_58, shL_60, shL_62, shL_63, shL_65, shL_66, shL_67, shL_68, shL_69, shL_70]; first | done | omega)) only [q8_65, q8_68, q8_69, q8_72, q8_73, q8_74, shC_0, shC_1, shC_2, shC_3, shC_4, shC_5, shC_6, shC_7, shC_8, shC_9, shC_10, shC_11, shC_12, shC_13, shC_14, shC_15, shC_30, shC_44, shC_29, shC_58, shC_59, shC_60, shC_61, shC_62, shC_63, shC_64, shC_65, shC_66, shC_67, shC_68, shC_69, shC_70, shL_2, shL_3, shL_4, shL_5, shL_6, shL_8, shL_10, shL_12, shL_14, shL_29, shL_58, shL_60, shL_62, shL_63, shL_65, shL_66, shL_67, shL_68, shL_69, shL_70, shR_0_0, shR_0_1, shR_0_2, shR_0_3, shR_0_4, shR_0_5, shR_0_6, shR_0_7, shR_1_3, shR_1_4, shR_1_5, shR_1_6, shR_1_7, shR_1_8, shR_1_9, shR_1_10, shR_1_11, shR_7_2, shR_9_2, shR_11_2, shR_13_0, shR_59_0, shR_61_0, shR_61_1, shR_61_2, shR_64_0, shR_64_1, shR_64_2, shR_64_3, shR_64_4, shR_64_5, c1, pushR_I, pushR_L, pushR_R, pushR_V, InR_gg, InR_ga, InR_wr, InL_gl, InR_b, b01, b01_0, if_true, if_false, not_true_eq_false, not_false_eq_true, and_true, true_and, and_self, Sum.inl.injEq, one0, Bool.false_eq_true]
        refine CalK_E (m17n (d := d + 6) hX2 hok.2.1 hR2) (fun r χ hP => ?_)
        obtain ⟨rfl, hs, hR3⟩ := hP
        have hX3 := TXC_same hX2 hs
        have hT3 := TRc_59 hT2 hs
        have ht3 := tok_b hX.2.2 ht2.2.1
        have htS3 := tS_b (b := b) ht2.2.1
        have e4b : gg χ 59 4 = tK b N (tE b N R.2.1) := hR3.2.2.1
        by_cases c2 : tK b N (tE b N R.2.1) = 3
        · rw [if_pos c2] at hq
          have e4c : gg χ 59 4 = 3 := e4b.trans c2
          simp (disch := first | with_reducible assumption | omega | exact ga_in _ _ _ | exact gg_in _ _ _ | (unfold InR; omega) | (unfold InL; omega) | (simp only [shC_0, shC_1, shC_2, shC_3, shC_4, shC_5, shC_6, shC_7, shC_8, shC_9, shC_10, shC_11, shC_12, shC_13, shC_14, shC_15, shC_30, shC_44, shC_29, shC_58, shC_59, shC_60, shC_61, shC_62, shC_63, shC_64, shC_65, shC_66, shC_67, shC_68, shC_69, shC_70, shL_2, shL_3, shL_4, shL_5, shL_6, shL_8, shL_10, shL_12, shL_14, shL_29, shL_58, shL_60, shL_62, shL_63, shL_65, shL_66, shL_67, shL_68, shL_69, shL_70]; first | done | omega)) only [q8_77, q8_78, q8_81, q8_82, q8_85, q8_86, q8_89, q8_90, q8_93, q8_94, shC_0, shC_1, shC_2, shC_3, shC_4, shC_5, shC_6, shC_7, shC_8, shC_9, shC_10, shC_11, shC_12, shC_13, shC_14, shC_15, shC_30, shC_44, shC_29, shC_58, shC_59, shC_60, shC_61, shC_62, shC_63, shC_64, shC_65, shC_66, shC_67, shC_68, shC_69, shC_70, shL_2, shL_3, shL_4, shL_5, shL_6, shL_8, shL_10, shL_12, shL_14, shL_29, shL_58, shL_60, shL_62, shL_63, shL_65, shL_66, shL_67, shL_68, shL_69, shL_70, shR_0_0, shR_0_1, shR_0_2, shR_0_3, shR_0_4, shR_0_5, shR_0_6, shR_0_7, shR_1_3, shR_1_4, shR_1_5, shR_1_6, shR_1_7, shR_1_8, shR_1_9, shR_1_10, shR_1_11, shR_7_2, shR_9_2, shR_11_2, shR_13_0, shR_59_0, shR_61_0, shR_61_1, shR_61_2, shR_64_0, shR_64_1, shR_64_2, shR_64_3, shR_64_4, shR_64_5, e4c, pushR_I, pushR_L, pushR_R, pushR_V, InR_gg, InR_ga, InR_wr, InL_gl, InR_b, b01, b01_0, if_true, if_false, not_true_eq_false, not_false_eq_true, and_true, true_and, and_self, Sum.inl.injEq, one0, Bool.false_eq_true]
          refine CalK_E (m17n (d := d + 6) hX3 ht2.2.1 hR3) (fun r ψ hP => ?_)
          obtain ⟨rfl, hs4, hR4⟩ := hP
          rw [q8_97]
          have hfr : FRM τ ψ := FRM_trans hF (FRM_trans (FRM_59 hs) (FRM_59 hs4))
          have h3 := ht3.2.2.1 (by rw [c2]; omega)
          have hpR := hok.2.2 c1
          refine ih (items + 1) (tE b N (tE b N R.2.1)) R.2.2 ψ (TXC_FRM hX hfr) ht3.2.1 hR4 (TRc_59 hT3 hs4) hok.1 (by omega) (by omega) (fun r φ hP => hq r φ ?_)
          obtain ⟨q1, q2, q3⟩ := hP
          exact ⟨q1, FRM_trans hfr q2, q3⟩
        · rw [if_neg c2] at hq
          have e4c : ¬ gg χ 59 4 = 3 := by rw [e4b]; exact c2
          simp (disch := first | with_reducible assumption | omega | exact ga_in _ _ _ | exact gg_in _ _ _ | (unfold InR; omega) | (unfold InL; omega) | (simp only [shC_0, shC_1, shC_2, shC_3, shC_4, shC_5, shC_6, shC_7, shC_8, shC_9, shC_10, shC_11, shC_12, shC_13, shC_14, shC_15, shC_30, shC_44, shC_29, shC_58, shC_59, shC_60, shC_61, shC_62, shC_63, shC_64, shC_65, shC_66, shC_67, shC_68, shC_69, shC_70, shL_2, shL_3, shL_4, shL_5, shL_6, shL_8, shL_10, shL_12, shL_14, shL_29, shL_58, shL_60, shL_62, shL_63, shL_65, shL_66, shL_67, shL_68, shL_69, shL_70]; first | done | omega)) only [q8_77, q8_78, q8_81, q8_82, q8_85, q8_86, q8_89, q8_90, q8_93, q8_94, shC_0, shC_1, shC_2, shC_3, shC_4, shC_5, shC_6, shC_7, shC_8, shC_9, shC_10, shC_11, shC_12, shC_13, shC_14, shC_15, shC_30, shC_44, shC_29, shC_58, shC_59, shC_60, shC_61, shC_62, shC_63, shC_64, shC_65, shC_66, shC_67, shC_68, shC_69, shC_70, shL_2, shL_3, shL_4, shL_5, shL_6, shL_8, shL_10, shL_12, shL_14, shL_29, shL_58, shL_60, shL_62, shL_63, shL_65, shL_66, shL_67, shL_68, shL_69, shL_70, shR_0_0, shR_0_1, shR_0_2, shR_0_3, shR_0_4, shR_0_5, shR_0_6, shR_0_7, shR_1_3, shR_1_4, shR_1_5, shR_1_6, shR_1_7, shR_1_8, shR_1_9, shR_1_10, shR_1_11, shR_7_2, shR_9_2, shR_11_2, shR_13_0, shR_59_0, shR_61_0, shR_61_1, shR_61_2, shR_64_0, shR_64_1, shR_64_2, shR_64_3, shR_64_4, shR_64_5, e4c, k9 (σ := χ) (p := tS b N (tE b N R.2.1)) (by omega) hR3.2.1, pushR_I, pushR_L, pushR_R, pushR_V, InR_gg, InR_ga, InR_wr, InL_gl, InR_b, b01, b01_0, if_true, if_false, not_true_eq_false, not_false_eq_true, and_true, true_and, and_self, Sum.inl.injEq, one0, Bool.false_eq_true]
          exact hq _ _ ⟨rfl, FRM_trans hF (FRM_59 hs), hT3⟩
      · rw [if_neg c1] at hq
        simp (disch := first | with_reducible assumption | omega | exact ga_in _ _ _ | exact gg_in _ _ _ | (unfold InR; omega) | (unfold InL; omega) | (simp only [shC_0, shC_1, shC_2, shC_3, shC_4, shC_5, shC_6, shC_7, shC_8, shC_9, shC_10, shC_11, shC_12, shC_13, shC_14, shC_15, shC_30, shC_44, shC_29, shC_58, shC_59, shC_60, shC_61, shC_62, shC_63, shC_64, shC_65, shC_66, shC_67, shC_68, shC_69, shC_70, shL_2, shL_3, shL_4, shL_5, shL_6, shL_8, shL_10, shL_12, shL_14, shL_29, shL_58, shL_60, shL_62, shL_63, shL_65, shL_66, shL_67, shL_68, shL_69, shL_70]; first | done | omega)) only [q8_65, q8_68, q8_69, q8_72, q8_73, q8_74, shC_0, shC_1, shC_2, shC_3, shC_4, shC_5, shC_6, shC_7, shC_8, shC_9, shC_10, shC_11, shC_12, shC_13, shC_14, shC_15, shC_30, shC_44, shC_29, shC_58, shC_59, shC_60, shC_61, shC_62, shC_63, shC_64, shC_65, shC_66, shC_67, shC_68, shC_69, shC_70, shL_2, shL_3, shL_4, shL_5, shL_6, shL_8, shL_10, shL_12, shL_14, shL_29, shL_58, shL_60, shL_62, shL_63, shL_65, shL_66, shL_67, shL_68, shL_69, shL_70, shR_0_0, shR_0_1, shR_0_2, shR_0_3, shR_0_4, shR_0_5, shR_0_6, shR_0_7, shR_1_3, shR_1_4, shR_1_5, shR_1_6, shR_1_7, shR_1_8, shR_1_9, shR_1_10, shR_1_11, shR_7_2, shR_9_2, shR_11_2, shR_13_0, shR_59_0, shR_61_0, shR_61_1, shR_61_2, shR_64_0, shR_64_1, shR_64_2, shR_64_3, shR_64_4, shR_64_5, c1, k9 (σ := υ) (p := tS b N R.2.1) (by omega) hR2.2.1, pushR_I, pushR_L, pushR_R, pushR_V, InR_gg, InR_ga, InR_wr, InL_gl, InR_b, b01, b01_0, if_true, if_false, not_true_eq_false, not_false_eq_true, and_true, true_and, and_self, Sum.inl.injEq, one0, Bool.false_eq_true]
        exact hq _ _ ⟨rfl, hF, hT2⟩
theorem m8 (h : TXC σ b N) (hT : TRc σ 15 (fun _ => 0)) : CalE (d + 10) 8 [.inr (.inr (.inl 59)), .inr (.inr (.inl 15))] σ (RDR σ (parF b N)) := by
  have hN := h.2.2.1
  have ht0 := tok_b h.2.2 (Nat.zero_le N)
  have htS0 := tS_b (b := b) (Nat.zero_le N)
  have ht1 := tok_b h.2.2 ht0.2.1
  have htS1 := tS_b (b := b) ht0.2.1
  refine Cal_ex (ls := [.inr (.inr (.inl 59)), .inr (.inr (.inl 15)), aU]) rfl mna_8 mml_8 mhl_8 rfl rfl ?_
  simp (disch := first | with_reducible assumption | omega | exact ga_in _ _ _ | exact gg_in _ _ _ | (unfold InR; omega) | (unfold InL; omega) | (simp only [shC_0, shC_1, shC_2, shC_3, shC_4, shC_5, shC_6, shC_7, shC_8, shC_9, shC_10, shC_11, shC_12, shC_13, shC_14, shC_15, shC_30, shC_44, shC_29, shC_58, shC_59, shC_60, shC_61, shC_62, shC_63, shC_64, shC_65, shC_66, shC_67, shC_68, shC_69, shC_70, shL_2, shL_3, shL_4, shL_5, shL_6, shL_8, shL_10, shL_12, shL_14, shL_29, shL_58, shL_60, shL_62, shL_63, shL_65, shL_66, shL_67, shL_68, shL_69, shL_70]; first | done | omega)) only [q8_0, q8_1, q8_2, q8_5, q8_6, shC_0, shC_1, shC_2, shC_3, shC_4, shC_5, shC_6, shC_7, shC_8, shC_9, shC_10, shC_11, shC_12, shC_13, shC_14, shC_15, shC_30, shC_44, shC_29, shC_58, shC_59, shC_60, shC_61, shC_62, shC_63, shC_64, shC_65, shC_66, shC_67, shC_68, shC_69, shC_70, shL_2, shL_3, shL_4, shL_5, shL_6, shL_8, shL_10, shL_12, shL_14, shL_29, shL_58, shL_60, shL_62, shL_63, shL_65, shL_66, shL_67, shL_68, shL_69, shL_70, shR_0_0, shR_0_1, shR_0_2, shR_0_3, shR_0_4, shR_0_5, shR_0_6, shR_0_7, shR_1_3, shR_1_4, shR_1_5, shR_1_6, shR_1_7, shR_1_8, shR_1_9, shR_1_10, shR_1_11, shR_7_2, shR_9_2, shR_11_2, shR_13_0, shR_59_0, shR_61_0, shR_61_1, shR_61_2, shR_64_0, shR_64_1, shR_64_2, shR_64_3, shR_64_4, shR_64_5, pushR_I, pushR_L, pushR_R, pushR_V, InR_gg, InR_ga, InR_wr, InL_gl, InR_b, b01, b01_0, if_true, if_false, not_true_eq_false, not_false_eq_true, and_true, true_and, and_self, Sum.inl.injEq, one0, Bool.false_eq_true]
  have hs0 : SAM S59 σ (ug σ 59 2 0) := SAM_ug (SAM_refl _ _) ⟨rfl, by omega⟩
  have hX0 := TXC_same h hs0
  refine CalK_E (m17 (d := d + 6) hX0 (Nat.zero_le N) (by rw [gg_ug_eq]; rfl)) (fun r τ hP => ?_)
  obtain ⟨rfl, hs, hR⟩ := hP
  have hX1 := TXC_same hX0 hs
  have hF1 : FRM σ τ := FRM_trans (FRM_59 hs0) (FRM_59 hs)
  have hT1 := TRc_59 (TRc_59 hT hs0) hs
  have W0 : ∀ K, CalK (d + 9) 21 [.inr (.inr (.inl 59)), .inr (.inr (.inr 2))] τ K = K (.inl (if isWd b N 0 0 then 1 else 0)) τ := fun K => k21 (d := d + 7) (σ := τ) (K := K) hX1 (i := 0) (Nat.zero_le N) (by omega) hR
  unfold parF
  by_cases c0 : isWd b N 0 0 = true
  · rw [if_pos c0]
    simp (disch := first | with_reducible assumption | omega | exact ga_in _ _ _ | exact gg_in _ _ _ | (unfold InR; omega) | (unfold InL; omega) | (simp only [shC_0, shC_1, shC_2, shC_3, shC_4, shC_5, shC_6, shC_7, shC_8, shC_9, shC_10, shC_11, shC_12, shC_13, shC_14, shC_15, shC_30, shC_44, shC_29, shC_58, shC_59, shC_60, shC_61, shC_62, shC_63, shC_64, shC_65, shC_66, shC_67, shC_68, shC_69, shC_70, shL_2, shL_3, shL_4, shL_5, shL_6, shL_8, shL_10, shL_12, shL_14, shL_29, shL_58, shL_60, shL_62, shL_63, shL_65, shL_66, shL_67, shL_68, shL_69, shL_70]; first | done | omega)) only [q8_9, q8_10, q8_12, q8_15, q8_18, q8_19, q8_22, q8_23, q8_24, shC_0, shC_1, shC_2, shC_3, shC_4, shC_5, shC_6, shC_7, shC_8, shC_9, shC_10, shC_11, shC_12, shC_13, shC_14, shC_15, shC_30, shC_44, shC_29, shC_58, shC_59, shC_60, shC_61, shC_62, shC_63, shC_64, shC_65, shC_66, shC_67, shC_68, shC_69, shC_70, shL_2, shL_3, shL_4, shL_5, shL_6, shL_8, shL_10, shL_12, shL_14, shL_29, shL_58, shL_60, shL_62, shL_63, shL_65, shL_66, shL_67, shL_68, shL_69, shL_70, shR_0_0, shR_0_1, shR_0_2, shR_0_3, shR_0_4, shR_0_5, shR_0_6, shR_0_7, shR_1_3, shR_1_4, shR_1_5, shR_1_6, shR_1_7, shR_1_8, shR_1_9, shR_1_10, shR_1_11, shR_7_2, shR_9_2, shR_11_2, shR_13_0, shR_59_0, shR_61_0, shR_61_1, shR_61_2, shR_64_0, shR_64_1, shR_64_2, shR_64_3, shR_64_4, shR_64_5, W0, c0, pushR_I, pushR_L, pushR_R, pushR_V, InR_gg, InR_ga, InR_wr, InL_gl, InR_b, b01, b01_0, if_true, if_false, not_true_eq_false, not_false_eq_true, and_true, true_and, and_self, Sum.inl.injEq, one0, Bool.false_eq_true]
    refine CalK_E (m17n (d := d + 6) hX1 (Nat.zero_le N) hR) (fun r υ hP => ?_)
    obtain ⟨rfl, hs2, hR2⟩ := hP
    have hX2 := TXC_same hX1 hs2
    have hT2 := TRc_59 hT1 hs2
    have hF2 := FRM_trans hF1 (FRM_59 hs2)
    have e4b : gg υ 59 4 = tK b N (tE b N 0) := hR2.2.2.1
    by_cases c2 : tK b N (tE b N 0) = 3
    · rw [if_pos c2]
      have e4c : gg υ 59 4 = 3 := e4b.trans c2
      simp (disch := first | with_reducible assumption | omega | exact ga_in _ _ _ | exact gg_in _ _ _ | (unfold InR; omega) | (unfold InL; omega) | (simp only [shC_0, shC_1, shC_2, shC_3, shC_4, shC_5, shC_6, shC_7, shC_8, shC_9, shC_10, shC_11, shC_12, shC_13, shC_14, shC_15, shC_30, shC_44, shC_29, shC_58, shC_59, shC_60, shC_61, shC_62, shC_63, shC_64, shC_65, shC_66, shC_67, shC_68, shC_69, shC_70, shL_2, shL_3, shL_4, shL_5, shL_6, shL_8, shL_10, shL_12, shL_14, shL_29, shL_58, shL_60, shL_62, shL_63, shL_65, shL_66, shL_67, shL_68, shL_69, shL_70]; first | done | omega)) only [q8_27, q8_28, q8_31, q8_32, q8_35, q8_36, q8_39, q8_40, q8_41, q8_42, q8_43, shC_0, shC_1, shC_2, shC_3, shC_4, shC_5, shC_6, shC_7, shC_8, shC_9, shC_10, shC_11, shC_12, shC_13, shC_14, shC_15, shC_30, shC_44, shC_29, shC_58, shC_59, shC_60, shC_61, shC_62, shC_63, shC_64, shC_65, shC_66, shC_67, shC_68, shC_69, shC_70, shL_2, shL_3, shL_4, shL_5, shL_6, shL_8, shL_10, shL_12, shL_14, shL_29, shL_58, shL_60, shL_62, shL_63, shL_65, shL_66, shL_67, shL_68, shL_69, shL_70, shR_0_0, shR_0_1, shR_0_2, shR_0_3, shR_0_4, shR_0_5, shR_0_6, shR_0_7, shR_1_3, shR_1_4, shR_1_5, shR_1_6, shR_1_7, shR_1_8, shR_1_9, shR_1_10, shR_1_11, shR_7_2, shR_9_2, shR_11_2, shR_13_0, shR_59_0, shR_61_0, shR_61_1, shR_61_2, shR_64_0, shR_64_1, shR_64_2, shR_64_3, shR_64_4, shR_64_5, e4c, pushR_I, pushR_L, pushR_R, pushR_V, InR_gg, InR_ga, InR_wr, InL_gl, InR_b, b01, b01_0, if_true, if_false, not_true_eq_false, not_false_eq_true, and_true, true_and, and_self, Sum.inl.injEq, one0, Bool.false_eq_true]
      refine CalK_E (m17n (d := d + 6) hX2 ht0.2.1 hR2) (fun r ψ hP => ?_)
      obtain ⟨rfl, hs3, hR3⟩ := hP
      have h3 := ht1.2.2.1 (by rw [c2]; omega)
      refine l8 (d := d) (N + 1) 1 (tE b N (tE b N 0)) (fun _ => 0) ψ (TXC_same hX2 hs3) ht1.2.1 hR3 (TRc_59 hT2 hs3) ROK_zero (by omega) (by omega) (fun r φ hP => ?_)
      obtain ⟨q1, q2, q3⟩ := hP
      exact ⟨q1, FRM_trans hF2 (FRM_trans (FRM_59 hs3) q2), q3⟩
    · rw [if_neg c2]
      have e4c : ¬ gg υ 59 4 = 3 := by rw [e4b]; exact c2
      simp (disch := first | with_reducible assumption | omega | exact ga_in _ _ _ | exact gg_in _ _ _ | (unfold InR; omega) | (unfold InL; omega) | (simp only [shC_0, shC_1, shC_2, shC_3, shC_4, shC_5, shC_6, shC_7, shC_8, shC_9, shC_10, shC_11, shC_12, shC_13, shC_14, shC_15, shC_30, shC_44, shC_29, shC_58, shC_59, shC_60, shC_61, shC_62, shC_63, shC_64, shC_65, shC_66, shC_67, shC_68, shC_69, shC_70, shL_2, shL_3, shL_4, shL_5, shL_6, shL_8, shL_10, shL_12, shL_14, shL_29, shL_58, shL_60, shL_62, shL_63, shL_65, shL_66, shL_67, shL_68, shL_69, shL_70]; first | done | omega)) only [q8_27, q8_28, q8_31, q8_32, q8_35, q8_36, q8_39, q8_40, q8_41, q8_42, q8_43, shC_0, shC_1, shC_2, shC_3, shC_4, shC_5, shC_6, shC_7, shC_8, shC_9, shC_10, shC_11, shC_12, shC_13, shC_14, shC_15, shC_30, shC_44, shC_29, shC_58, shC_59, shC_60, shC_61, shC_62, shC_63, shC_64, shC_65, shC_66, shC_67, shC_68, shC_69, shC_70, shL_2, shL_3, shL_4, shL_5, shL_6, shL_8, shL_10, shL_12, shL_14, shL_29, shL_58, shL_60, shL_62, shL_63, shL_65, shL_66, shL_67, shL_68, shL_69, shL_70, shR_0_0, shR_0_1, shR_0_2, shR_0_3, shR_0_4, shR_0_5, shR_0_6, shR_0_7, shR_1_3, shR_1_4, shR_1_5, shR_1_6, shR_1_7, shR_1_8, shR_1_9, shR_1_10, shR_1_11, shR_7_2, shR_9_2, shR_11_2, shR_13_0, shR_59_0, shR_61_0, shR_61_1, shR_61_2, shR_64_0, shR_64_1, shR_64_2, shR_64_3, shR_64_4, shR_64_5, e4c, k9 (σ := υ) (p := tS b N (tE b N 0)) (by omega) hR2.2.1, pushR_I, pushR_L, pushR_R, pushR_V, InR_gg, InR_ga, InR_wr, InL_gl, InR_b, b01, b01_0, if_true, if_false, not_true_eq_false, not_false_eq_true, and_true, true_and, and_self, Sum.inl.injEq, one0, Bool.false_eq_true]
      exact ⟨rfl, hF2, hT2⟩
  · rw [if_neg c0]
    simp (disch := first | with_reducible assumption | omega | exact ga_in _ _ _ | exact gg_in _ _ _ | (unfold InR; omega) | (unfold InL; omega) | (simp only [shC_0, shC_1, shC_2, shC_3, shC_4, shC_5, shC_6, shC_7, shC_8, shC_9, shC_10, shC_11, shC_12, shC_13, shC_14, shC_15, shC_30, shC_44, shC_29, shC_58, shC_59, shC_60, shC_61, shC_62, shC_63, shC_64, shC_65, shC_66, shC_67, shC_68, shC_69, shC_70, shL_2, shL_3, shL_4, shL_5, shL_6, shL_8, shL_10, shL_12, shL_14, shL_29, shL_58, shL_60, shL_62, shL_63, shL_65, shL_66, shL_67, shL_68, shL_69, shL_70]; first | done | omega)) only [q8_9, q8_10, q8_12, q8_15, q8_18, q8_19, q8_22, q8_23, q8_24, shC_0, shC_1, shC_2, shC_3, shC_4, shC_5, shC_6, shC_7, shC_8, shC_9, shC_10, shC_11, shC_12, shC_13, shC_14, shC_15, shC_30, shC_44, shC_29, shC_58, shC_59, shC_60, shC_61, shC_62, shC_63, shC_64, shC_65, shC_66, shC_67, shC_68, shC_69, shC_70, shL_2, shL_3, shL_4, shL_5, shL_6, shL_8, shL_10, shL_12, shL_14, shL_29, shL_58, shL_60, shL_62, shL_63, shL_65, shL_66, shL_67, shL_68, shL_69, shL_70, shR_0_0, shR_0_1, shR_0_2, shR_0_3, shR_0_4, shR_0_5, shR_0_6, shR_0_7, shR_1_3, shR_1_4, shR_1_5, shR_1_6, shR_1_7, shR_1_8, shR_1_9, shR_1_10, shR_1_11, shR_7_2, shR_9_2, shR_11_2, shR_13_0, shR_59_0, shR_61_0, shR_61_1, shR_61_2, shR_64_0, shR_64_1, shR_64_2, shR_64_3, shR_64_4, shR_64_5, W0, c0, k9 (σ := τ) (p := tS b N 0) (by omega) hR.2.1, pushR_I, pushR_L, pushR_R, pushR_V, InR_gg, InR_ga, InR_wr, InL_gl, InR_b, b01, b01_0, if_true, if_false, not_true_eq_false, not_false_eq_true, and_true, true_and, and_self, Sum.inl.injEq, one0, Bool.false_eq_true]
    exact ⟨rfl, hF1, hT1⟩
theorem parL_ok (hb : TXb b N) : ∀ (k : Nat) (items : Int) (p : Nat) (g : Int → Int), p ≤ N → ROK g → 1 ≤ items → ROK (parL b N k items p g).2 ∧ -200 ≤ (parL b N k items p g).1 ∧ (parL b N k items p g).1 ≤ items + k := by
  have hN := hb.1
  intro k
  induction k with
  | zero => intro items p g hp hg hi; exact ⟨hg, by show -200 ≤ items; omega, by show items ≤ items + 0; omega⟩
  | succ k ih =>
    intro items p g hp hg hi
    simp only [parL]
    have hk : items ≤ items + ((k + 1 : Nat) : Int) := by omega
    by_cases cz : tK b N p = 0
    · rw [if_pos cz]; exact ⟨hg, by show -200 ≤ items; omega, hk⟩
    · rw [if_neg cz]
      have hok := itF_ok hb hp cz hg
      have ht2 := tok_b hb hok.2.1
      have htS2 := tS_b (b := b) hok.2.1
      have ht3 := tok_b hb ht2.2.1
      have htS3 := tS_b (b := b) ht2.2.1
      by_cases c1 : (itF b N p g).1 = true
      · rw [if_pos c1]
        by_cases c2 : tK b N (tE b N (itF b N p g).2.1) = 3
        · rw [if_pos c2]
          have := ih (items + 1) (tE b N (tE b N (itF b N p g).2.1)) (itF b N p g).2.2 ht3.2.1 hok.1 (by omega)
          exact ⟨this.1, this.2.1, by omega⟩
        · rw [if_neg c2]
          exact ⟨hok.1, by show -200 ≤ -10 - (tS b N (tE b N (itF b N p g).2.1) : Int); omega, by show -10 - (tS b N (tE b N (itF b N p g).2.1) : Int) ≤ _; omega⟩
      · rw [if_neg c1]
        exact ⟨hok.1, by show -200 ≤ -10 - (tS b N (itF b N p g).2.1 : Int); omega, by show -10 - (tS b N (itF b N p g).2.1 : Int) ≤ _; omega⟩
theorem parF_ok (hb : TXb b N) : ROK (parF b N).2 ∧ -200 ≤ (parF b N).1 ∧ (parF b N).1 ≤ 1000 := by
  have hN := hb.1
  have ht0 := tok_b hb (Nat.zero_le N)
  have htS0 := tS_b (b := b) (Nat.zero_le N)
  have ht1 := tok_b hb ht0.2.1
  have htS1 := tS_b (b := b) ht0.2.1
  unfold parF
  split
  · split
    · have := parL_ok hb (N + 1) 1 (tE b N (tE b N 0)) (fun _ => 0) ht1.2.1 ROK_zero (by omega)
      exact ⟨this.1, this.2.1, by omega⟩
    · exact ⟨ROK_zero, by show -200 ≤ -10 - (tS b N (tE b N 0) : Int); omega, by show -10 - (tS b N (tE b N 0) : Int) ≤ 1000; omega⟩
  · exact ⟨ROK_zero, by show -200 ≤ -10 - (tS b N 0 : Int); omega, by show -10 - (tS b N 0 : Int) ≤ 1000; omega⟩
theorem txB_ok (hS : SOK S) : TXb (txB S) (S 4 2).toNat := by
  obtain ⟨⟨h0, h1⟩, h2⟩ := hS.2.2.2.2.2.2
  refine ⟨by omega, fun p hp => ?_, fun p hp => ?_⟩
  · unfold txB
    rw [if_pos (by omega)]
    exact h2 (p : Int) (by omega) (by omega)
  · unfold txB
    rw [if_neg (by omega)]
theorem TXC_of (h : CR σ S) (hS : SOK S) : TXC σ (txB S) (S 4 2).toNat := by
  have hb := hS.2.2.2.2.2.2.1
  obtain ⟨h1, h2⟩ := h.2.2.2.2.1
  refine ⟨by omega, fun p hp => ?_, txB_ok hS⟩
  rw [h2 (p : Int) (by omega) (by omega)]
  unfold txB
  rw [if_pos (by omega)]
theorem CR_FRM {τ : SG} (h : CR σ S) (hs : FRM σ τ) : CR τ S := by
  refine CR_scr h (fun a b q => ?_) (fun b => hs.2.2 0 b)
  unfold CRk at q
  by_cases c : 15 ≤ a ∧ a ≤ 28
  · exact hs.2.1 a b (by omega) (by omega)
  · exact hs.1 a b (fun z => by have := z.1; have := z.2; omega) c
theorem CLO_FRM {τ : SG} (hs : FRM σ τ) : CLO σ τ := ⟨fun a b q => hs.1 a b (fun z => by have := z.1; omega) (by omega), fun a b _ => hs.2.2 a b⟩
theorem o50 (h : CR σ S) (hS : SOK S) : CalE (d + 20) 50 [.inr (.inr (.inl 0))] σ (OPC σ (fRead S)) := by
  have hX := TXC_of h hS
  have hpk := parF_ok hX.2.2
  refine Cal_ex (ls := [.inr (.inr (.inl 0)), aU]) rfl mna_50 mml_50 mhl_50 rfl rfl ?_
  unfold fRead
  simp (disch := first | with_reducible assumption | omega | exact ga_in _ _ _ | exact gg_in _ _ _ | (unfold InR; omega) | (unfold InL; omega) | (simp only [shC_0, shC_1, shC_2, shC_3, shC_4, shC_5, shC_6, shC_7, shC_8, shC_9, shC_10, shC_11, shC_12, shC_13, shC_14, shC_15, shC_30, shC_44, shC_29, shC_58, shC_59, shC_60, shC_61, shC_62, shC_63, shC_64, shC_65, shC_66, shC_67, shC_68, shC_69, shC_70, shL_2, shL_3, shL_4, shL_5, shL_6, shL_8, shL_10, shL_12, shL_14, shL_29, shL_58, shL_60, shL_62, shL_63, shL_65, shL_66, shL_67, shL_68, shL_69, shL_70]; first | done | omega)) only [q50_0, q50_1, q50_4, q50_7, q50_8, q50_11, q50_12, q50_15, shC_0, shC_1, shC_2, shC_3, shC_4, shC_5, shC_6, shC_7, shC_8, shC_9, shC_10, shC_11, shC_12, shC_13, shC_14, shC_15, shC_30, shC_44, shC_29, shC_58, shC_59, shC_60, shC_61, shC_62, shC_63, shC_64, shC_65, shC_66, shC_67, shC_68, shC_69, shC_70, shL_2, shL_3, shL_4, shL_5, shL_6, shL_8, shL_10, shL_12, shL_14, shL_29, shL_58, shL_60, shL_62, shL_63, shL_65, shL_66, shL_67, shL_68, shL_69, shL_70, shR_0_0, shR_0_1, shR_0_2, shR_0_3, shR_0_4, shR_0_5, shR_0_6, shR_0_7, shR_1_3, shR_1_4, shR_1_5, shR_1_6, shR_1_7, shR_1_8, shR_1_9, shR_1_10, shR_1_11, shR_7_2, shR_9_2, shR_11_2, shR_13_0, shR_59_0, shR_61_0, shR_61_1, shR_61_2, shR_64_0, shR_64_1, shR_64_2, shR_64_3, shR_64_4, shR_64_5, k32 T15, pushR_I, pushR_L, pushR_R, pushR_V, InR_gg, InR_ga, InR_wr, InL_gl, InR_b, b01, b01_0, if_true, if_false, not_true_eq_false, not_false_eq_true, and_true, true_and, and_self, Sum.inl.injEq, one0, Bool.false_eq_true]
  have ho : OUT 15 σ (wipeT σ 15) := OUT_wipe
  have hF0 := FRM_out ho
  refine CalK_E (m8 (d := d + 9) (TXC_FRM hX hF0) (TRc_wipe (fun _ _ _ => rfl))) (fun r τ hP => ?_)
  generalize parF (txB S) (S 4 2).toNat = R at hP hpk ⊢
  obtain ⟨rfl, hF, hT⟩ := hP
  have hFr := FRM_trans hF0 hF
  by_cases c : 0 ≤ R.1
  · have c' : ¬ R.1 < 0 := by omega
    rw [if_pos c]
    simp (disch := first | with_reducible assumption | omega | exact ga_in _ _ _ | exact gg_in _ _ _ | (unfold InR; omega) | (unfold InL; omega) | (simp only [shC_0, shC_1, shC_2, shC_3, shC_4, shC_5, shC_6, shC_7, shC_8, shC_9, shC_10, shC_11, shC_12, shC_13, shC_14, shC_15, shC_30, shC_44, shC_29, shC_58, shC_59, shC_60, shC_61, shC_62, shC_63, shC_64, shC_65, shC_66, shC_67, shC_68, shC_69, shC_70, shL_2, shL_3, shL_4, shL_5, shL_6, shL_8, shL_10, shL_12, shL_14, shL_29, shL_58, shL_60, shL_62, shL_63, shL_65, shL_66, shL_67, shL_68, shL_69, shL_70]; first | done | omega)) only [q50_18, q50_19, q50_20, q50_23, q50_24, q50_27, q50_28, q50_31, q50_34, q50_35, shC_0, shC_1, shC_2, shC_3, shC_4, shC_5, shC_6, shC_7, shC_8, shC_9, shC_10, shC_11, shC_12, shC_13, shC_14, shC_15, shC_30, shC_44, shC_29, shC_58, shC_59, shC_60, shC_61, shC_62, shC_63, shC_64, shC_65, shC_66, shC_67, shC_68, shC_69, shC_70, shL_2, shL_3, shL_4, shL_5, shL_6, shL_8, shL_10, shL_12, shL_14, shL_29, shL_58, shL_60, shL_62, shL_63, shL_65, shL_66, shL_67, shL_68, shL_69, shL_70, shR_0_0, shR_0_1, shR_0_2, shR_0_3, shR_0_4, shR_0_5, shR_0_6, shR_0_7, shR_1_3, shR_1_4, shR_1_5, shR_1_6, shR_1_7, shR_1_8, shR_1_9, shR_1_10, shR_1_11, shR_7_2, shR_9_2, shR_11_2, shR_13_0, shR_59_0, shR_61_0, shR_61_1, shR_61_2, shR_64_0, shR_64_1, shR_64_2, shR_64_3, shR_64_4, shR_64_5, c', k33 T1 T15 (by omega), pushR_I, pushR_L, pushR_R, pushR_V, InR_gg, InR_ga, InR_wr, InL_gl, InR_b, b01, b01_0, if_true, if_false, not_true_eq_false, not_false_eq_true, and_true, true_and, and_self, Sum.inl.injEq, one0, Bool.false_eq_true]
    have hc := OP_row (v := R.1) (CR_FRM h hFr) (TRc_cp (t := 1) (u := 15) hT hpk.1.1 (by omega)) OUT_cp
    exact ⟨hc.1, hc.2.1, CLO_trans (CLO_FRM hFr) hc.2.2⟩
  · have c' : R.1 < 0 := by omega
    rw [if_neg c]
    simp (disch := first | with_reducible assumption | omega | exact ga_in _ _ _ | exact gg_in _ _ _ | (unfold InR; omega) | (unfold InL; omega) | (simp only [shC_0, shC_1, shC_2, shC_3, shC_4, shC_5, shC_6, shC_7, shC_8, shC_9, shC_10, shC_11, shC_12, shC_13, shC_14, shC_15, shC_30, shC_44, shC_29, shC_58, shC_59, shC_60, shC_61, shC_62, shC_63, shC_64, shC_65, shC_66, shC_67, shC_68, shC_69, shC_70, shL_2, shL_3, shL_4, shL_5, shL_6, shL_8, shL_10, shL_12, shL_14, shL_29, shL_58, shL_60, shL_62, shL_63, shL_65, shL_66, shL_67, shL_68, shL_69, shL_70]; first | done | omega)) only [q50_18, q50_19, q50_20, q50_23, q50_24, q50_27, q50_28, q50_31, q50_34, q50_35, shC_0, shC_1, shC_2, shC_3, shC_4, shC_5, shC_6, shC_7, shC_8, shC_9, shC_10, shC_11, shC_12, shC_13, shC_14, shC_15, shC_30, shC_44, shC_29, shC_58, shC_59, shC_60, shC_61, shC_62, shC_63, shC_64, shC_65, shC_66, shC_67, shC_68, shC_69, shC_70, shL_2, shL_3, shL_4, shL_5, shL_6, shL_8, shL_10, shL_12, shL_14, shL_29, shL_58, shL_60, shL_62, shL_63, shL_65, shL_66, shL_67, shL_68, shL_69, shL_70, shR_0_0, shR_0_1, shR_0_2, shR_0_3, shR_0_4, shR_0_5, shR_0_6, shR_0_7, shR_1_3, shR_1_4, shR_1_5, shR_1_6, shR_1_7, shR_1_8, shR_1_9, shR_1_10, shR_1_11, shR_7_2, shR_9_2, shR_11_2, shR_13_0, shR_59_0, shR_61_0, shR_61_1, shR_61_2, shR_64_0, shR_64_1, shR_64_2, shR_64_3, shR_64_4, shR_64_5, c', pushR_I, pushR_L, pushR_R, pushR_V, InR_gg, InR_ga, InR_wr, InL_gl, InR_b, b01, b01_0, if_true, if_false, not_true_eq_false, not_false_eq_true, and_true, true_and, and_self, Sum.inl.injEq, one0, Bool.false_eq_true]
    exact ⟨rfl, CR_FRM h hFr, CLO_FRM hFr⟩
end READC2
