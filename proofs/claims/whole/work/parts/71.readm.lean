-- the reference's read
def RIT (σ : SG) (b : Nat → Int) (N : Nat) (R : IT) (r : AV) (τ : SG) : Prop := r = aU ∧ FRMM σ τ ∧ ((R.1 = true ∧ tK b N (tE b N R.2.1) = 3 → RDM τ b N (tE b N (tE b N R.2.1)) ∧ gg τ 71 14 = 0 ∧ RW τ 73 221 R.2.2) ∧ (¬ (R.1 = true ∧ tK b N (tE b N R.2.1) = 3) → RDM τ b N (if R.1 = true then tE b N R.2.1 else R.2.1) ∧ gg τ 71 14 = 1))
section READM
variable {d : Nat} {σ : SG} {b : Nat → Int} {N : Nat} {K : AV → SG → Prop} {Q : AV → SG → Prop} {S : Nat → Int → Int}
theorem tK_r (p : Nat) : 0 ≤ tK b N p ∧ tK b N p ≤ 4 := by
  unfold tK
  repeat' split
  all_goals omega
theorem stop_01 (p : Nat) : (if tK b N p = 3 then (1 : Int) else 0) = 0 ∨ (if tK b N p = 3 then (1 : Int) else 0) = 1 := by split <;> simp
theorem l155t {R : IT} {v1 v2 : AV} (h : TXM σ b N) (hq : R.2.1 ≤ N) {υ : SG} {r0 : AV} (hI : ITM σ b N R r0 υ) : Wp none (d + 8) 155 169 [.inr (.inr (.inl 71)), v1, v2] [] υ (RIT σ b N R) := by
  obtain ⟨-, hF, h1, h2⟩ := hI
  have hX := TXM_F h hF
  by_cases c : R.1 = true
  · obtain ⟨hrd, hw, hrw⟩ := h1 c
    have hq1 := (tok_b h.2.2 hq).2.1
    have e12 := hrd.2.2.1
    have kr := tK_r (b := b) (N := N) (tE b N R.2.1)
    by_cases c3 : tK b N (tE b N R.2.1) = 3
    · have e12' : gg υ 71 12 = 3 := e12.trans c3
      simp (disch := first | with_reducible assumption | omega | exact ga_in _ _ _ | exact gg_in _ _ _ | (unfold InR; omega) | (unfold InL; omega) | (simp only [shC_71, shC_72, shC_73, shC_74, shC_75, shC_76, shC_77, shC_78, shC_79, shL_72, shL_73, shL_74, shL_75, shL_76, shL_77, shL_78, shL_79]; first | done | omega)) only [q155_169, q155_170, q155_171, q155_174, q155_175, q155_178, q155_179, q155_182, q155_183, shC_71, shC_72, shC_73, shC_74, shC_75, shC_76, shC_77, shC_78, shC_79, shL_72, shL_73, shL_74, shL_75, shL_76, shL_77, shL_78, shL_79, shR_71_0, shR_71_1, shR_71_2, shR_71_3, shR_71_4, shR_71_5, shR_71_8, shR_71_15, e12', pushR_I, pushR_L, pushR_R, pushR_V, InR_gg, InR_ga, InR_wr, InL_gl, InR_b, b01, b01_0, if_true, if_false, not_true_eq_false, not_false_eq_true, and_true, true_and, and_self, Sum.inl.injEq, one0, Bool.false_eq_true]
      refine CalK_E (wrd_0 (d := d + 4) hX hq1 hrd (Or.inr rfl) hw) (fun r τ hP => ?_)
      obtain ⟨rfl, hs, h3, -⟩ := hP
      obtain ⟨hrd2, hw2⟩ := h3 rfl
      simp (disch := first | with_reducible assumption | omega | exact ga_in _ _ _ | exact gg_in _ _ _ | (unfold InR; omega) | (unfold InL; omega) | (simp only [shC_71, shC_72, shC_73, shC_74, shC_75, shC_76, shC_77, shC_78, shC_79, shL_72, shL_73, shL_74, shL_75, shL_76, shL_77, shL_78, shL_79]; first | done | omega)) only [q155_186, pushR_I, pushR_L, pushR_R, pushR_V, InR_gg, InR_ga, InR_wr, InL_gl, InR_b, b01, b01_0, if_true, if_false, not_true_eq_false, not_false_eq_true, and_true, true_and, and_self, Sum.inl.injEq, one0, Bool.false_eq_true]
      exact ⟨rfl, FRMM_trans hF (FRMM_71 hs), fun _ => ⟨hrd2, hw2, RW_71 hrw hs⟩, fun q => absurd ⟨c, c3⟩ q⟩
    · have e12' : ¬ gg υ 71 12 = 3 := by rw [e12]; exact c3
      simp (disch := first | with_reducible assumption | omega | exact ga_in _ _ _ | exact gg_in _ _ _ | (unfold InR; omega) | (unfold InL; omega) | (simp only [shC_71, shC_72, shC_73, shC_74, shC_75, shC_76, shC_77, shC_78, shC_79, shL_72, shL_73, shL_74, shL_75, shL_76, shL_77, shL_78, shL_79]; first | done | omega)) only [q155_169, q155_170, q155_171, q155_174, q155_175, q155_178, q155_179, q155_182, q155_183, shC_71, shC_72, shC_73, shC_74, shC_75, shC_76, shC_77, shC_78, shC_79, shL_72, shL_73, shL_74, shL_75, shL_76, shL_77, shL_78, shL_79, shR_71_0, shR_71_1, shR_71_2, shR_71_3, shR_71_4, shR_71_5, shR_71_8, shR_71_15, e12', pushR_I, pushR_L, pushR_R, pushR_V, InR_gg, InR_ga, InR_wr, InL_gl, InR_b, b01, b01_0, if_true, if_false, not_true_eq_false, not_false_eq_true, and_true, true_and, and_self, Sum.inl.injEq, one0, Bool.false_eq_true]
      refine CalK_E (wrd_0 (d := d + 4) hX hq1 hrd (Or.inl rfl) hw) (fun r τ hP => ?_)
      obtain ⟨rfl, hs, -, h3⟩ := hP
      obtain ⟨hrd2, hw2⟩ := h3 rfl
      simp (disch := first | with_reducible assumption | omega | exact ga_in _ _ _ | exact gg_in _ _ _ | (unfold InR; omega) | (unfold InL; omega) | (simp only [shC_71, shC_72, shC_73, shC_74, shC_75, shC_76, shC_77, shC_78, shC_79, shL_72, shL_73, shL_74, shL_75, shL_76, shL_77, shL_78, shL_79]; first | done | omega)) only [q155_186, pushR_I, pushR_L, pushR_R, pushR_V, InR_gg, InR_ga, InR_wr, InL_gl, InR_b, b01, b01_0, if_true, if_false, not_true_eq_false, not_false_eq_true, and_true, true_and, and_self, Sum.inl.injEq, one0, Bool.false_eq_true]
      refine ⟨rfl, FRMM_trans hF (FRMM_71 hs), fun q => absurd q.2 c3, fun _ => ⟨?_, hw2⟩⟩
      rw [if_pos c]
      exact hrd2
  · have c' : R.1 = false := Bool.eq_false_iff.mpr c
    obtain ⟨hrd, hw⟩ := h2 c'
    have e12 := hrd.2.2.1
    have fin : ∀ may : Int, (may = 0 ∨ may = 1) → CalK (d + 8) 149 [.inr (.inr (.inl 71)), .inl may] υ (fun r σ' => Wp none (d + 8) 155 186 [.inr (.inr (.inl 71)), v1, v2] (pushR r []) σ' (RIT σ b N R)) := fun may hm => by
      refine CalK_E (wrd_w (d := d + 4) hX hq hrd hm hw) (fun r τ hP => ?_)
      obtain ⟨rfl, hs, hrd2, hw2⟩ := hP
      simp (disch := first | with_reducible assumption | omega | exact ga_in _ _ _ | exact gg_in _ _ _ | (unfold InR; omega) | (unfold InL; omega) | (simp only [shC_71, shC_72, shC_73, shC_74, shC_75, shC_76, shC_77, shC_78, shC_79, shL_72, shL_73, shL_74, shL_75, shL_76, shL_77, shL_78, shL_79]; first | done | omega)) only [q155_186, pushR_I, pushR_L, pushR_R, pushR_V, InR_gg, InR_ga, InR_wr, InL_gl, InR_b, b01, b01_0, if_true, if_false, not_true_eq_false, not_false_eq_true, and_true, true_and, and_self, Sum.inl.injEq, one0, Bool.false_eq_true]
      refine ⟨rfl, FRMM_trans hF (FRMM_71 hs), fun q => absurd q.1 c, fun _ => ⟨?_, hw2⟩⟩
      rw [if_neg c]
      exact hrd2
    by_cases c3 : gg υ 71 12 = 3
    · simp (disch := first | with_reducible assumption | omega | exact ga_in _ _ _ | exact gg_in _ _ _ | (unfold InR; omega) | (unfold InL; omega) | (simp only [shC_71, shC_72, shC_73, shC_74, shC_75, shC_76, shC_77, shC_78, shC_79, shL_72, shL_73, shL_74, shL_75, shL_76, shL_77, shL_78, shL_79]; first | done | omega)) only [q155_169, q155_170, q155_171, q155_174, q155_175, q155_178, q155_179, q155_182, q155_183, shC_71, shC_72, shC_73, shC_74, shC_75, shC_76, shC_77, shC_78, shC_79, shL_72, shL_73, shL_74, shL_75, shL_76, shL_77, shL_78, shL_79, shR_71_0, shR_71_1, shR_71_2, shR_71_3, shR_71_4, shR_71_5, shR_71_8, shR_71_15, c3, pushR_I, pushR_L, pushR_R, pushR_V, InR_gg, InR_ga, InR_wr, InL_gl, InR_b, b01, b01_0, if_true, if_false, not_true_eq_false, not_false_eq_true, and_true, true_and, and_self, Sum.inl.injEq, one0, Bool.false_eq_true]
      exact fin 1 (Or.inr rfl)
    · simp (disch := first | with_reducible assumption | omega | exact ga_in _ _ _ | exact gg_in _ _ _ | (unfold InR; omega) | (unfold InL; omega) | (simp only [shC_71, shC_72, shC_73, shC_74, shC_75, shC_76, shC_77, shC_78, shC_79, shL_72, shL_73, shL_74, shL_75, shL_76, shL_77, shL_78, shL_79]; first | done | omega)) only [q155_169, q155_170, q155_171, q155_174, q155_175, q155_178, q155_179, q155_182, q155_183, shC_71, shC_72, shC_73, shC_74, shC_75, shC_76, shC_77, shC_78, shC_79, shL_72, shL_73, shL_74, shL_75, shL_76, shL_77, shL_78, shL_79, shR_71_0, shR_71_1, shR_71_2, shR_71_3, shR_71_4, shR_71_5, shR_71_8, shR_71_15, c3, pushR_I, pushR_L, pushR_R, pushR_V, InR_gg, InR_ga, InR_wr, InL_gl, InR_b, b01, b01_0, if_true, if_false, not_true_eq_false, not_false_eq_true, and_true, true_and, and_self, Sum.inl.injEq, one0, Bool.false_eq_true]
      exact fin 0 (Or.inl rfl)
theorem wdF_c : wdF 20 15 23 14 0 0 = wnI 0 ∧ wdF 12 9 5 0 0 0 = wnI 1 ∧ wdF 15 22 5 14 0 0 = wnI 2 ∧ wdF 19 1 25 0 0 0 = wnI 3 ∧ wdF 6 15 18 7 5 20 = wnI 4 ∧ wdF 4 1 25 19 0 0 = wnI 5 := by decide +kernel
theorem wn_ne : ∀ i : Fin 6, 0 < wnI i.val ∧ wnI i.val < 2147483648 := by decide +kernel
theorem isWd_k {i p : Nat} (h : ¬ tK b N p = 1) : isWd b N i p = false := by
  unfold isWd
  rw [decide_eq_false h]
  rfl
theorem m155 (h : TXM σ b N) {p : Nat} (hp : p ≤ N) (hz : ¬ tK b N p = 0) (hr : RDM σ b N p) (hw : gg σ 71 14 = 0) {g : Int → Int} (hR : RW σ 73 221 g) (hg : ROK g) : CalE (d + 9) 155 [.inr (.inr (.inl 71)), .inl 0] σ (RIT σ b N (itF b N p g)) := by
  obtain ⟨w0, w1, w2, w3, w4, w5⟩ := wdF_c
  have K1 : ∀ K, CalK (d + 8) 146 [.inl 12, .inl 9, .inl 5, .inl 0, .inl 0, .inl 0] σ K = K (.inl (wnI 1)) σ := fun K => by rw [← w1]; exact k146 (d := d + 7) (by omega) (by omega) (by omega) (by omega) (by omega) (by omega)
  have K2 : ∀ K, CalK (d + 8) 146 [.inl 15, .inl 22, .inl 5, .inl 14, .inl 0, .inl 0] σ K = K (.inl (wnI 2)) σ := fun K => by rw [← w2]; exact k146 (d := d + 7) (by omega) (by omega) (by omega) (by omega) (by omega) (by omega)
  have K3 : ∀ K, CalK (d + 8) 146 [.inl 19, .inl 1, .inl 25, .inl 0, .inl 0, .inl 0] σ K = K (.inl (wnI 3)) σ := fun K => by rw [← w3]; exact k146 (d := d + 7) (by omega) (by omega) (by omega) (by omega) (by omega) (by omega)
  have K4 : ∀ K, CalK (d + 8) 146 [.inl 6, .inl 15, .inl 18, .inl 7, .inl 5, .inl 20] σ K = K (.inl (wnI 4)) σ := fun K => by rw [← w4]; exact k146 (d := d + 7) (by omega) (by omega) (by omega) (by omega) (by omega) (by omega)
  have K5 : ∀ K, CalK (d + 8) 146 [.inl 4, .inl 1, .inl 25, .inl 19, .inl 0, .inl 0] σ K = K (.inl (wnI 5)) σ := fun K => by rw [← w5]; exact k146 (d := d + 7) (by omega) (by omega) (by omega) (by omega) (by omega) (by omega)
  have b1 : InR (wnI 1) := by have := wn_ne 1; exact ⟨by show -2147483648 ≤ wnI 1; have := this.1; change 0 < wnI 1 at this; omega, by have := this.2; change wnI 1 < _ at this; omega⟩
  have b2 : InR (wnI 2) := by have := wn_ne 2; exact ⟨by show -2147483648 ≤ wnI 2; have := this.1; change 0 < wnI 2 at this; omega, by have := this.2; change wnI 2 < _ at this; omega⟩
  have b3 : InR (wnI 3) := by have := wn_ne 3; exact ⟨by show -2147483648 ≤ wnI 3; have := this.1; change 0 < wnI 3 at this; omega, by have := this.2; change wnI 3 < _ at this; omega⟩
  have b4 : InR (wnI 4) := by have := wn_ne 4; exact ⟨by show -2147483648 ≤ wnI 4; have := this.1; change 0 < wnI 4 at this; omega, by have := this.2; change wnI 4 < _ at this; omega⟩
  have b5 : InR (wnI 5) := by have := wn_ne 5; exact ⟨by show -2147483648 ≤ wnI 5; have := this.1; change 0 < wnI 5 at this; omega, by have := this.2; change wnI 5 < _ at this; omega⟩
  have hok := itF_ok h.2.2 hp hz hg
  -- the wrong word
  have bad : ∀ v2 : AV, itF b N p g = (false, p, g) → Wp none (d + 8) 155 169 [.inr (.inr (.inl 71)), .inl 0, v2] [] (ug σ 71 14 1) (RIT σ b N (itF b N p g)) := fun v2 e => by
    rw [e]
    exact l155t (d := d) (r0 := aU) h hp ⟨rfl, FRMM_71 (SAM_ug (SAM_refl _ _) ⟨rfl, by omega, by omega⟩), fun z => absurd z (by simp), fun _ => ⟨RDM_14 hr, by rw [gg_ug_eq]; rfl⟩⟩
  refine Cal_ex (ls := [.inr (.inr (.inl 71)), .inl 0, aU]) rfl mna_155 mml_155 mhl_155 rfl rfl ?_
  by_cases ck : tK b N p = 1
  · have e12 : gg σ 71 12 = 1 := hr.2.2.1.trans ck
    have e13 : gg σ 71 13 = tW b N p := hr.2.2.2.2 ck
    have hv : InR (tW b N p) := by rw [← e13]; exact gg_in _ _ _
    have W1 := word_iff h.2.2 hp (i := 1) (by omega) ck
    have W2 := word_iff h.2.2 hp (i := 2) (by omega) ck
    have W3 := word_iff h.2.2 hp (i := 3) (by omega) ck
    have W4 := word_iff h.2.2 hp (i := 4) (by omega) ck
    have W5 := word_iff h.2.2 hp (i := 5) (by omega) ck
    by_cases c1 : isWd b N 1 p = true
    · have ei : itF b N p g = itLie b N p g := by unfold itF; rw [if_pos c1]
      rw [ei] at hok ⊢
      simp (disch := first | with_reducible assumption | omega | exact ga_in _ _ _ | exact gg_in _ _ _ | (unfold InR; omega) | (unfold InL; omega) | (simp only [shC_71, shC_72, shC_73, shC_74, shC_75, shC_76, shC_77, shC_78, shC_79, shL_72, shL_73, shL_74, shL_75, shL_76, shL_77, shL_78, shL_79]; first | done | omega)) only [q155_0, q155_1, q155_4, q155_5, q155_8, q155_9, q155_12, q155_15, q155_16, q155_17, q155_18, q155_21, q155_22, q155_23, q155_25, q155_27, q155_29, q155_31, q155_32, q155_33, q155_36, q155_39, q155_40, q155_43, q155_44, q155_47, q155_50, q155_51, q155_53, q155_55, q155_56, q155_57, q155_58, q155_59, q155_62, q155_65, q155_66, q155_69, q155_72, q155_73, q155_75, q155_77, q155_78, q155_80, q155_81, q155_82, q155_85, q155_88, q155_89, q155_92, q155_95, q155_96, q155_98, q155_99, q155_101, q155_102, q155_103, q155_104, q155_107, q155_110, q155_111, q155_114, q155_117, q155_118, q155_120, q155_122, q155_124, q155_126, q155_127, q155_129, q155_132, q155_135, q155_136, q155_139, q155_142, q155_143, q155_144, q155_145, q155_147, q155_149, q155_150, q155_151, q155_154, q155_157, q155_158, q155_161, q155_164, q155_165, q155_166, shC_71, shC_72, shC_73, shC_74, shC_75, shC_76, shC_77, shC_78, shC_79, shL_72, shL_73, shL_74, shL_75, shL_76, shL_77, shL_78, shL_79, shR_71_0, shR_71_1, shR_71_2, shR_71_3, shR_71_4, shR_71_5, shR_71_8, shR_71_15, e12, e13, K1, W1, c1, pushR_I, pushR_L, pushR_R, pushR_V, InR_gg, InR_ga, InR_wr, InL_gl, InR_b, b01, b01_0, if_true, if_false, not_true_eq_false, not_false_eq_true, and_true, true_and, and_self, Sum.inl.injEq, one0, Bool.false_eq_true]
      refine CalK_E (m150 (d := d) h hp hr hw hR hg) (fun r τ hP => ?_)
      obtain ⟨rfl, hP2⟩ := hP
      simp (disch := first | with_reducible assumption | omega | exact ga_in _ _ _ | exact gg_in _ _ _ | (unfold InR; omega) | (unfold InL; omega) | (simp only [shC_71, shC_72, shC_73, shC_74, shC_75, shC_76, shC_77, shC_78, shC_79, shL_72, shL_73, shL_74, shL_75, shL_76, shL_77, shL_78, shL_79]; first | done | omega)) only [q155_65, q155_66, q155_69, pushR_I, pushR_L, pushR_R, pushR_V, InR_gg, InR_ga, InR_wr, InL_gl, InR_b, b01, b01_0, if_true, if_false, not_true_eq_false, not_false_eq_true, and_true, true_and, and_self, Sum.inl.injEq, one0, Bool.false_eq_true]
      exact l155t (d := d) (r0 := aU) h hok.2.1 ⟨rfl, hP2⟩
    · by_cases c2 : isWd b N 2 p = true
      · have ei : itF b N p g = itOven b N p g := by unfold itF; rw [if_neg c1, if_pos c2]
        rw [ei] at hok ⊢
        simp (disch := first | with_reducible assumption | omega | exact ga_in _ _ _ | exact gg_in _ _ _ | (unfold InR; omega) | (unfold InL; omega) | (simp only [shC_71, shC_72, shC_73, shC_74, shC_75, shC_76, shC_77, shC_78, shC_79, shL_72, shL_73, shL_74, shL_75, shL_76, shL_77, shL_78, shL_79]; first | done | omega)) only [q155_0, q155_1, q155_4, q155_5, q155_8, q155_9, q155_12, q155_15, q155_16, q155_17, q155_18, q155_21, q155_22, q155_23, q155_25, q155_27, q155_29, q155_31, q155_32, q155_33, q155_36, q155_39, q155_40, q155_43, q155_44, q155_47, q155_50, q155_51, q155_53, q155_55, q155_56, q155_57, q155_58, q155_59, q155_62, q155_65, q155_66, q155_69, q155_72, q155_73, q155_75, q155_77, q155_78, q155_80, q155_81, q155_82, q155_85, q155_88, q155_89, q155_92, q155_95, q155_96, q155_98, q155_99, q155_101, q155_102, q155_103, q155_104, q155_107, q155_110, q155_111, q155_114, q155_117, q155_118, q155_120, q155_122, q155_124, q155_126, q155_127, q155_129, q155_132, q155_135, q155_136, q155_139, q155_142, q155_143, q155_144, q155_145, q155_147, q155_149, q155_150, q155_151, q155_154, q155_157, q155_158, q155_161, q155_164, q155_165, q155_166, shC_71, shC_72, shC_73, shC_74, shC_75, shC_76, shC_77, shC_78, shC_79, shL_72, shL_73, shL_74, shL_75, shL_76, shL_77, shL_78, shL_79, shR_71_0, shR_71_1, shR_71_2, shR_71_3, shR_71_4, shR_71_5, shR_71_8, shR_71_15, e12, e13, K1, K2, W1, W2, c1, c2, pushR_I, pushR_L, pushR_R, pushR_V, InR_gg, InR_ga, InR_wr, InL_gl, InR_b, b01, b01_0, if_true, if_false, not_true_eq_false, not_false_eq_true, and_true, true_and, and_self, Sum.inl.injEq, one0, Bool.false_eq_true]
        refine CalK_E (m151 (d := d) h hp hr hw hR hg) (fun r τ hP => ?_)
        obtain ⟨rfl, hP2⟩ := hP
        simp (disch := first | with_reducible assumption | omega | exact ga_in _ _ _ | exact gg_in _ _ _ | (unfold InR; omega) | (unfold InL; omega) | (simp only [shC_71, shC_72, shC_73, shC_74, shC_75, shC_76, shC_77, shC_78, shC_79, shL_72, shL_73, shL_74, shL_75, shL_76, shL_77, shL_78, shL_79]; first | done | omega)) only [q155_88, q155_89, q155_92, pushR_I, pushR_L, pushR_R, pushR_V, InR_gg, InR_ga, InR_wr, InL_gl, InR_b, b01, b01_0, if_true, if_false, not_true_eq_false, not_false_eq_true, and_true, true_and, and_self, Sum.inl.injEq, one0, Bool.false_eq_true]
        exact l155t (d := d) (r0 := aU) h hok.2.1 ⟨rfl, hP2⟩
      · by_cases c3 : isWd b N 3 p = true
        · have ei : itF b N p g = itSay b N p g := by unfold itF; rw [if_neg c1, if_neg c2, if_pos c3]
          rw [ei] at hok ⊢
          simp (disch := first | with_reducible assumption | omega | exact ga_in _ _ _ | exact gg_in _ _ _ | (unfold InR; omega) | (unfold InL; omega) | (simp only [shC_71, shC_72, shC_73, shC_74, shC_75, shC_76, shC_77, shC_78, shC_79, shL_72, shL_73, shL_74, shL_75, shL_76, shL_77, shL_78, shL_79]; first | done | omega)) only [q155_0, q155_1, q155_4, q155_5, q155_8, q155_9, q155_12, q155_15, q155_16, q155_17, q155_18, q155_21, q155_22, q155_23, q155_25, q155_27, q155_29, q155_31, q155_32, q155_33, q155_36, q155_39, q155_40, q155_43, q155_44, q155_47, q155_50, q155_51, q155_53, q155_55, q155_56, q155_57, q155_58, q155_59, q155_62, q155_65, q155_66, q155_69, q155_72, q155_73, q155_75, q155_77, q155_78, q155_80, q155_81, q155_82, q155_85, q155_88, q155_89, q155_92, q155_95, q155_96, q155_98, q155_99, q155_101, q155_102, q155_103, q155_104, q155_107, q155_110, q155_111, q155_114, q155_117, q155_118, q155_120, q155_122, q155_124, q155_126, q155_127, q155_129, q155_132, q155_135, q155_136, q155_139, q155_142, q155_143, q155_144, q155_145, q155_147, q155_149, q155_150, q155_151, q155_154, q155_157, q155_158, q155_161, q155_164, q155_165, q155_166, shC_71, shC_72, shC_73, shC_74, shC_75, shC_76, shC_77, shC_78, shC_79, shL_72, shL_73, shL_74, shL_75, shL_76, shL_77, shL_78, shL_79, shR_71_0, shR_71_1, shR_71_2, shR_71_3, shR_71_4, shR_71_5, shR_71_8, shR_71_15, e12, e13, K1, K2, K3, W1, W2, W3, c1, c2, c3, pushR_I, pushR_L, pushR_R, pushR_V, InR_gg, InR_ga, InR_wr, InL_gl, InR_b, b01, b01_0, if_true, if_false, not_true_eq_false, not_false_eq_true, and_true, true_and, and_self, Sum.inl.injEq, one0, Bool.false_eq_true]
          refine CalK_E (m152 (d := d) h hp hr hw hR hg) (fun r τ hP => ?_)
          obtain ⟨rfl, hP2⟩ := hP
          simp (disch := first | with_reducible assumption | omega | exact ga_in _ _ _ | exact gg_in _ _ _ | (unfold InR; omega) | (unfold InL; omega) | (simp only [shC_71, shC_72, shC_73, shC_74, shC_75, shC_76, shC_77, shC_78, shC_79, shL_72, shL_73, shL_74, shL_75, shL_76, shL_77, shL_78, shL_79]; first | done | omega)) only [q155_110, q155_111, q155_114, pushR_I, pushR_L, pushR_R, pushR_V, InR_gg, InR_ga, InR_wr, InL_gl, InR_b, b01, b01_0, if_true, if_false, not_true_eq_false, not_false_eq_true, and_true, true_and, and_self, Sum.inl.injEq, one0, Bool.false_eq_true]
          exact l155t (d := d) (r0 := aU) h hok.2.1 ⟨rfl, hP2⟩
        · by_cases c4 : isWd b N 4 p = true
          · have ei : itF b N p g = itForget b N p g := by unfold itF; rw [if_neg c1, if_neg c2, if_neg c3, if_pos c4]
            rw [ei] at hok ⊢
            simp (disch := first | with_reducible assumption | omega | exact ga_in _ _ _ | exact gg_in _ _ _ | (unfold InR; omega) | (unfold InL; omega) | (simp only [shC_71, shC_72, shC_73, shC_74, shC_75, shC_76, shC_77, shC_78, shC_79, shL_72, shL_73, shL_74, shL_75, shL_76, shL_77, shL_78, shL_79]; first | done | omega)) only [q155_0, q155_1, q155_4, q155_5, q155_8, q155_9, q155_12, q155_15, q155_16, q155_17, q155_18, q155_21, q155_22, q155_23, q155_25, q155_27, q155_29, q155_31, q155_32, q155_33, q155_36, q155_39, q155_40, q155_43, q155_44, q155_47, q155_50, q155_51, q155_53, q155_55, q155_56, q155_57, q155_58, q155_59, q155_62, q155_65, q155_66, q155_69, q155_72, q155_73, q155_75, q155_77, q155_78, q155_80, q155_81, q155_82, q155_85, q155_88, q155_89, q155_92, q155_95, q155_96, q155_98, q155_99, q155_101, q155_102, q155_103, q155_104, q155_107, q155_110, q155_111, q155_114, q155_117, q155_118, q155_120, q155_122, q155_124, q155_126, q155_127, q155_129, q155_132, q155_135, q155_136, q155_139, q155_142, q155_143, q155_144, q155_145, q155_147, q155_149, q155_150, q155_151, q155_154, q155_157, q155_158, q155_161, q155_164, q155_165, q155_166, shC_71, shC_72, shC_73, shC_74, shC_75, shC_76, shC_77, shC_78, shC_79, shL_72, shL_73, shL_74, shL_75, shL_76, shL_77, shL_78, shL_79, shR_71_0, shR_71_1, shR_71_2, shR_71_3, shR_71_4, shR_71_5, shR_71_8, shR_71_15, e12, e13, K1, K2, K3, K4, W1, W2, W3, W4, c1, c2, c3, c4, pushR_I, pushR_L, pushR_R, pushR_V, InR_gg, InR_ga, InR_wr, InL_gl, InR_b, b01, b01_0, if_true, if_false, not_true_eq_false, not_false_eq_true, and_true, true_and, and_self, Sum.inl.injEq, one0, Bool.false_eq_true]
            refine CalK_E (m153 (d := d) h hp hr hw hR hg) (fun r τ hP => ?_)
            obtain ⟨rfl, hP2⟩ := hP
            simp (disch := first | with_reducible assumption | omega | exact ga_in _ _ _ | exact gg_in _ _ _ | (unfold InR; omega) | (unfold InL; omega) | (simp only [shC_71, shC_72, shC_73, shC_74, shC_75, shC_76, shC_77, shC_78, shC_79, shL_72, shL_73, shL_74, shL_75, shL_76, shL_77, shL_78, shL_79]; first | done | omega)) only [q155_135, q155_136, q155_139, pushR_I, pushR_L, pushR_R, pushR_V, InR_gg, InR_ga, InR_wr, InL_gl, InR_b, b01, b01_0, if_true, if_false, not_true_eq_false, not_false_eq_true, and_true, true_and, and_self, Sum.inl.injEq, one0, Bool.false_eq_true]
            exact l155t (d := d) (r0 := aU) h hok.2.1 ⟨rfl, hP2⟩
          · by_cases c5 : isWd b N 5 p = true
            · have ei : itF b N p g = itDays b N p g := by unfold itF; rw [if_neg c1, if_neg c2, if_neg c3, if_neg c4, if_pos c5]
              rw [ei] at hok ⊢
              simp (disch := first | with_reducible assumption | omega | exact ga_in _ _ _ | exact gg_in _ _ _ | (unfold InR; omega) | (unfold InL; omega) | (simp only [shC_71, shC_72, shC_73, shC_74, shC_75, shC_76, shC_77, shC_78, shC_79, shL_72, shL_73, shL_74, shL_75, shL_76, shL_77, shL_78, shL_79]; first | done | omega)) only [q155_0, q155_1, q155_4, q155_5, q155_8, q155_9, q155_12, q155_15, q155_16, q155_17, q155_18, q155_21, q155_22, q155_23, q155_25, q155_27, q155_29, q155_31, q155_32, q155_33, q155_36, q155_39, q155_40, q155_43, q155_44, q155_47, q155_50, q155_51, q155_53, q155_55, q155_56, q155_57, q155_58, q155_59, q155_62, q155_65, q155_66, q155_69, q155_72, q155_73, q155_75, q155_77, q155_78, q155_80, q155_81, q155_82, q155_85, q155_88, q155_89, q155_92, q155_95, q155_96, q155_98, q155_99, q155_101, q155_102, q155_103, q155_104, q155_107, q155_110, q155_111, q155_114, q155_117, q155_118, q155_120, q155_122, q155_124, q155_126, q155_127, q155_129, q155_132, q155_135, q155_136, q155_139, q155_142, q155_143, q155_144, q155_145, q155_147, q155_149, q155_150, q155_151, q155_154, q155_157, q155_158, q155_161, q155_164, q155_165, q155_166, shC_71, shC_72, shC_73, shC_74, shC_75, shC_76, shC_77, shC_78, shC_79, shL_72, shL_73, shL_74, shL_75, shL_76, shL_77, shL_78, shL_79, shR_71_0, shR_71_1, shR_71_2, shR_71_3, shR_71_4, shR_71_5, shR_71_8, shR_71_15, e12, e13, K1, K2, K3, K4, K5, W1, W2, W3, W4, W5, c1, c2, c3, c4, c5, pushR_I, pushR_L, pushR_R, pushR_V, InR_gg, InR_ga, InR_wr, InL_gl, InR_b, b01, b01_0, if_true, if_false, not_true_eq_false, not_false_eq_true, and_true, true_and, and_self, Sum.inl.injEq, one0, Bool.false_eq_true]
              refine CalK_E (m154 (d := d) h hp hr hw hR hg) (fun r τ hP => ?_)
              obtain ⟨rfl, hP2⟩ := hP
              simp (disch := first | with_reducible assumption | omega | exact ga_in _ _ _ | exact gg_in _ _ _ | (unfold InR; omega) | (unfold InL; omega) | (simp only [shC_71, shC_72, shC_73, shC_74, shC_75, shC_76, shC_77, shC_78, shC_79, shL_72, shL_73, shL_74, shL_75, shL_76, shL_77, shL_78, shL_79]; first | done | omega)) only [q155_157, q155_158, q155_161, pushR_I, pushR_L, pushR_R, pushR_V, InR_gg, InR_ga, InR_wr, InL_gl, InR_b, b01, b01_0, if_true, if_false, not_true_eq_false, not_false_eq_true, and_true, true_and, and_self, Sum.inl.injEq, one0, Bool.false_eq_true]
              exact l155t (d := d) (r0 := aU) h hok.2.1 ⟨rfl, hP2⟩
            · have ei : itF b N p g = (false, p, g) := by unfold itF; rw [if_neg c1, if_neg c2, if_neg c3, if_neg c4, if_neg c5]
              have := bad (.inl (tW b N p)) ei
              simp (disch := first | with_reducible assumption | omega | exact ga_in _ _ _ | exact gg_in _ _ _ | (unfold InR; omega) | (unfold InL; omega) | (simp only [shC_71, shC_72, shC_73, shC_74, shC_75, shC_76, shC_77, shC_78, shC_79, shL_72, shL_73, shL_74, shL_75, shL_76, shL_77, shL_78, shL_79]; first | done | omega)) only [q155_0, q155_1, q155_4, q155_5, q155_8, q155_9, q155_12, q155_15, q155_16, q155_17, q155_18, q155_21, q155_22, q155_23, q155_25, q155_27, q155_29, q155_31, q155_32, q155_33, q155_36, q155_39, q155_40, q155_43, q155_44, q155_47, q155_50, q155_51, q155_53, q155_55, q155_56, q155_57, q155_58, q155_59, q155_62, q155_65, q155_66, q155_69, q155_72, q155_73, q155_75, q155_77, q155_78, q155_80, q155_81, q155_82, q155_85, q155_88, q155_89, q155_92, q155_95, q155_96, q155_98, q155_99, q155_101, q155_102, q155_103, q155_104, q155_107, q155_110, q155_111, q155_114, q155_117, q155_118, q155_120, q155_122, q155_124, q155_126, q155_127, q155_129, q155_132, q155_135, q155_136, q155_139, q155_142, q155_143, q155_144, q155_145, q155_147, q155_149, q155_150, q155_151, q155_154, q155_157, q155_158, q155_161, q155_164, q155_165, q155_166, shC_71, shC_72, shC_73, shC_74, shC_75, shC_76, shC_77, shC_78, shC_79, shL_72, shL_73, shL_74, shL_75, shL_76, shL_77, shL_78, shL_79, shR_71_0, shR_71_1, shR_71_2, shR_71_3, shR_71_4, shR_71_5, shR_71_8, shR_71_15, e12, e13, K1, K2, K3, K4, K5, W1, W2, W3, W4, W5, c1, c2, c3, c4, c5, pushR_I, pushR_L, pushR_R, pushR_V, InR_gg, InR_ga, InR_wr, InL_gl, InR_b, b01, b01_0, if_true, if_false, not_true_eq_false, not_false_eq_true, and_true, true_and, and_self, Sum.inl.injEq, one0, Bool.false_eq_true]
              exact this
  · have e12 : ¬ gg σ 71 12 = 1 := by rw [hr.2.2.1]; exact ck
    have n1 : ¬ (0 : Int) = wnI 1 := by have := (wn_ne 1).1; change 0 < wnI 1 at this; omega
    have n2 : ¬ (0 : Int) = wnI 2 := by have := (wn_ne 2).1; change 0 < wnI 2 at this; omega
    have n3 : ¬ (0 : Int) = wnI 3 := by have := (wn_ne 3).1; change 0 < wnI 3 at this; omega
    have n4 : ¬ (0 : Int) = wnI 4 := by have := (wn_ne 4).1; change 0 < wnI 4 at this; omega
    have n5 : ¬ (0 : Int) = wnI 5 := by have := (wn_ne 5).1; change 0 < wnI 5 at this; omega
    have ei : itF b N p g = (false, p, g) := by
      unfold itF
      rw [isWd_k ck, isWd_k ck, isWd_k ck, isWd_k ck, isWd_k ck]
      rfl
    have := bad (.inl 0) ei
    simp (disch := first | with_reducible assumption | omega | exact ga_in _ _ _ | exact gg_in _ _ _ | (unfold InR; omega) | (unfold InL; omega) | (simp only [shC_71, shC_72, shC_73, shC_74, shC_75, shC_76, shC_77, shC_78, shC_79, shL_72, shL_73, shL_74, shL_75, shL_76, shL_77, shL_78, shL_79]; first | done | omega)) only [q155_0, q155_1, q155_4, q155_5, q155_8, q155_9, q155_12, q155_15, q155_16, q155_17, q155_18, q155_21, q155_22, q155_23, q155_25, q155_27, q155_29, q155_31, q155_32, q155_33, q155_36, q155_39, q155_40, q155_43, q155_44, q155_47, q155_50, q155_51, q155_53, q155_55, q155_56, q155_57, q155_58, q155_59, q155_62, q155_65, q155_66, q155_69, q155_72, q155_73, q155_75, q155_77, q155_78, q155_80, q155_81, q155_82, q155_85, q155_88, q155_89, q155_92, q155_95, q155_96, q155_98, q155_99, q155_101, q155_102, q155_103, q155_104, q155_107, q155_110, q155_111, q155_114, q155_117, q155_118, q155_120, q155_122, q155_124, q155_126, q155_127, q155_129, q155_132, q155_135, q155_136, q155_139, q155_142, q155_143, q155_144, q155_145, q155_147, q155_149, q155_150, q155_151, q155_154, q155_157, q155_158, q155_161, q155_164, q155_165, q155_166, shC_71, shC_72, shC_73, shC_74, shC_75, shC_76, shC_77, shC_78, shC_79, shL_72, shL_73, shL_74, shL_75, shL_76, shL_77, shL_78, shL_79, shR_71_0, shR_71_1, shR_71_2, shR_71_3, shR_71_4, shR_71_5, shR_71_8, shR_71_15, e12, K1, K2, K3, K4, K5, n1, n2, n3, n4, n5, pushR_I, pushR_L, pushR_R, pushR_V, InR_gg, InR_ga, InR_wr, InL_gl, InR_b, b01, b01_0, if_true, if_false, not_true_eq_false, not_false_eq_true, and_true, true_and, and_self, Sum.inl.injEq, one0, Bool.false_eq_true]
    exact this
/-- the first item -/
theorem m155f (h : TXM σ b N) (hr : RDM σ b N 0) (hw : gg σ 71 14 = 0) {g : Int → Int} (hR : RW σ 73 221 g) : CalE (d + 9) 155 [.inr (.inr (.inl 71)), .inl 1] σ (RIT σ b N (isWd b N 0 0, 0, g)) := by
  obtain ⟨w0, w1, w2, w3, w4, w5⟩ := wdF_c
  have K0 : ∀ K, CalK (d + 8) 146 [.inl 20, .inl 15, .inl 23, .inl 14, .inl 0, .inl 0] σ K = K (.inl (wnI 0)) σ := fun K => by rw [← w0]; exact k146 (d := d + 7) (by omega) (by omega) (by omega) (by omega) (by omega) (by omega)
  have b0 : InR (wnI 0) := by have := wn_ne 0; exact ⟨by show -2147483648 ≤ wnI 0; have := this.1; change 0 < wnI 0 at this; omega, by have := this.2; change wnI 0 < _ at this; omega⟩
  have one_ne : ¬ ((1 : Int) = 0) := by omega
  have goT : ∀ v2 : AV, isWd b N 0 0 = true → CalK (d + 8) 149 [.inr (.inr (.inl 71)), .inl 1] σ (fun r σ' => Wp none (d + 8) 155 47 [.inr (.inr (.inl 71)), .inl 1, v2] (pushR r []) σ' (RIT σ b N (isWd b N 0 0, 0, g))) := fun v2 c => by
    refine CalK_E (wrd_0 (d := d + 4) h (Nat.zero_le N) hr (Or.inr rfl) hw) (fun r τ hP => ?_)
    obtain ⟨rfl, hs, h1, -⟩ := hP
    obtain ⟨hrd, hw1⟩ := h1 rfl
    simp (disch := first | with_reducible assumption | omega | exact ga_in _ _ _ | exact gg_in _ _ _ | (unfold InR; omega) | (unfold InL; omega) | (simp only [shC_71, shC_72, shC_73, shC_74, shC_75, shC_76, shC_77, shC_78, shC_79, shL_72, shL_73, shL_74, shL_75, shL_76, shL_77, shL_78, shL_79]; first | done | omega)) only [q155_47, pushR_I, pushR_L, pushR_R, pushR_V, InR_gg, InR_ga, InR_wr, InL_gl, InR_b, b01, b01_0, if_true, if_false, not_true_eq_false, not_false_eq_true, and_true, true_and, and_self, Sum.inl.injEq, one0, Bool.false_eq_true]
    exact l155t (d := d) (r0 := aU) h (Nat.zero_le N) ⟨rfl, FRMM_71 hs, fun _ => ⟨hrd, hw1, RW_71 hR hs⟩, fun z => absurd (c.symm.trans z) (by decide)⟩
  have goF : ∀ v2 : AV, isWd b N 0 0 = false → CalK (d + 8) 149 [.inr (.inr (.inl 71)), .inl 0] σ (fun r σ' => Wp none (d + 8) 155 47 [.inr (.inr (.inl 71)), .inl 1, v2] (pushR r []) σ' (RIT σ b N (isWd b N 0 0, 0, g))) := fun v2 c => by
    refine CalK_E (wrd_0 (d := d + 4) h (Nat.zero_le N) hr (Or.inl rfl) hw) (fun r τ hP => ?_)
    obtain ⟨rfl, hs, -, h2⟩ := hP
    obtain ⟨hrd, hw1⟩ := h2 rfl
    simp (disch := first | with_reducible assumption | omega | exact ga_in _ _ _ | exact gg_in _ _ _ | (unfold InR; omega) | (unfold InL; omega) | (simp only [shC_71, shC_72, shC_73, shC_74, shC_75, shC_76, shC_77, shC_78, shC_79, shL_72, shL_73, shL_74, shL_75, shL_76, shL_77, shL_78, shL_79]; first | done | omega)) only [q155_47, pushR_I, pushR_L, pushR_R, pushR_V, InR_gg, InR_ga, InR_wr, InL_gl, InR_b, b01, b01_0, if_true, if_false, not_true_eq_false, not_false_eq_true, and_true, true_and, and_self, Sum.inl.injEq, one0, Bool.false_eq_true]
    exact l155t (d := d) (r0 := aU) h (Nat.zero_le N) ⟨rfl, FRMM_71 hs, fun z => absurd (c.symm.trans z) (by decide), fun _ => ⟨hrd, hw1⟩⟩
  refine Cal_ex (ls := [.inr (.inr (.inl 71)), .inl 1, aU]) rfl mna_155 mml_155 mhl_155 rfl rfl ?_
  by_cases ck : tK b N 0 = 1
  · have e12 : gg σ 71 12 = 1 := hr.2.2.1.trans ck
    have e13 : gg σ 71 13 = tW b N 0 := hr.2.2.2.2 ck
    have hv : InR (tW b N 0) := by rw [← e13]; exact gg_in _ _ _
    have W0 := word_iff h.2.2 (Nat.zero_le N) (i := 0) (by omega) ck
    by_cases c1 : isWd b N 0 0 = true
    · have := goT (.inl (tW b N 0)) c1
      generalize (isWd b N 0 0, 0, g) = R at this ⊢
      simp (disch := first | with_reducible assumption | omega | exact ga_in _ _ _ | exact gg_in _ _ _ | (unfold InR; omega) | (unfold InL; omega) | (simp only [shC_71, shC_72, shC_73, shC_74, shC_75, shC_76, shC_77, shC_78, shC_79, shL_72, shL_73, shL_74, shL_75, shL_76, shL_77, shL_78, shL_79]; first | done | omega)) only [q155_0, q155_1, q155_4, q155_5, q155_8, q155_9, q155_12, q155_15, q155_16, q155_17, q155_18, q155_21, q155_22, q155_23, q155_25, q155_27, q155_29, q155_31, q155_32, q155_33, q155_36, q155_39, q155_40, q155_43, q155_44, shC_71, shC_72, shC_73, shC_74, shC_75, shC_76, shC_77, shC_78, shC_79, shL_72, shL_73, shL_74, shL_75, shL_76, shL_77, shL_78, shL_79, shR_71_0, shR_71_1, shR_71_2, shR_71_3, shR_71_4, shR_71_5, shR_71_8, shR_71_15, e12, e13, K0, W0, c1, one_ne, pushR_I, pushR_L, pushR_R, pushR_V, InR_gg, InR_ga, InR_wr, InL_gl, InR_b, b01, b01_0, if_true, if_false, not_true_eq_false, not_false_eq_true, and_true, true_and, and_self, Sum.inl.injEq, one0, Bool.false_eq_true]
      exact this
    · have := goF (.inl (tW b N 0)) (Bool.eq_false_iff.mpr c1)
      generalize (isWd b N 0 0, 0, g) = R at this ⊢
      simp (disch := first | with_reducible assumption | omega | exact ga_in _ _ _ | exact gg_in _ _ _ | (unfold InR; omega) | (unfold InL; omega) | (simp only [shC_71, shC_72, shC_73, shC_74, shC_75, shC_76, shC_77, shC_78, shC_79, shL_72, shL_73, shL_74, shL_75, shL_76, shL_77, shL_78, shL_79]; first | done | omega)) only [q155_0, q155_1, q155_4, q155_5, q155_8, q155_9, q155_12, q155_15, q155_16, q155_17, q155_18, q155_21, q155_22, q155_23, q155_25, q155_27, q155_29, q155_31, q155_32, q155_33, q155_36, q155_39, q155_40, q155_43, q155_44, shC_71, shC_72, shC_73, shC_74, shC_75, shC_76, shC_77, shC_78, shC_79, shL_72, shL_73, shL_74, shL_75, shL_76, shL_77, shL_78, shL_79, shR_71_0, shR_71_1, shR_71_2, shR_71_3, shR_71_4, shR_71_5, shR_71_8, shR_71_15, e12, e13, K0, W0, c1, one_ne, pushR_I, pushR_L, pushR_R, pushR_V, InR_gg, InR_ga, InR_wr, InL_gl, InR_b, b01, b01_0, if_true, if_false, not_true_eq_false, not_false_eq_true, and_true, true_and, and_self, Sum.inl.injEq, one0, Bool.false_eq_true]
      exact this
  · have e12 : ¬ gg σ 71 12 = 1 := by rw [hr.2.2.1]; exact ck
    have n0 : ¬ (0 : Int) = wnI 0 := by have := (wn_ne 0).1; change 0 < wnI 0 at this; omega
    have := goF (.inl 0) (isWd_k ck)
    generalize (isWd b N 0 0, 0, g) = R at this ⊢
    simp (disch := first | with_reducible assumption | omega | exact ga_in _ _ _ | exact gg_in _ _ _ | (unfold InR; omega) | (unfold InL; omega) | (simp only [shC_71, shC_72, shC_73, shC_74, shC_75, shC_76, shC_77, shC_78, shC_79, shL_72, shL_73, shL_74, shL_75, shL_76, shL_77, shL_78, shL_79]; first | done | omega)) only [q155_0, q155_1, q155_4, q155_5, q155_8, q155_9, q155_12, q155_15, q155_16, q155_17, q155_18, q155_21, q155_22, q155_23, q155_25, q155_27, q155_29, q155_31, q155_32, q155_33, q155_36, q155_39, q155_40, q155_43, q155_44, shC_71, shC_72, shC_73, shC_74, shC_75, shC_76, shC_77, shC_78, shC_79, shL_72, shL_73, shL_74, shL_75, shL_76, shL_77, shL_78, shL_79, shR_71_0, shR_71_1, shR_71_2, shR_71_3, shR_71_4, shR_71_5, shR_71_8, shR_71_15, e12, K0, n0, one_ne, pushR_I, pushR_L, pushR_R, pushR_V, InR_gg, InR_ga, InR_wr, InL_gl, InR_b, b01, b01_0, if_true, if_false, not_true_eq_false, not_false_eq_true, and_true, true_and, and_self, Sum.inl.injEq, one0, Bool.false_eq_true]
    exact this
/-- what a reading leaves -/
def RMR (σ : SG) (R : Int × (Int → Int)) (r : AV) (τ : SG) : Prop := r = .inl R.1 ∧ ((0 ≤ R.1 → ∃ υ, FRMM σ υ ∧ RW υ 73 221 R.2 ∧ τ = mR υ 72 0 221 (fun x => ga υ 73 (0 + (x : Int)))) ∧ (R.1 < 0 → FRMM σ τ))
theorem l156 (h : TXM σ b N) : ∀ (k : Nat) (items : Int) (p : Nat) (g : Int → Int) (τ : SG), FRMM σ τ → p ≤ N → RDM τ b N p → gg τ 71 14 = 0 → RW τ 73 221 g → ROK g → N + 1 ≤ p + k → (1 ≤ items ∧ items ≤ p) →
    (∀ r υ, RMR σ (parL b N k items p g) r υ → Q r υ) → Wp none (d + 10) 156 54 [.inr (.inr (.inl 71)), .inl items] [] τ Q := by
  have hN := h.2.2.1
  intro k
  induction k with
  | zero => intro items p g τ hF hp hrd hw hrw hg hk hi hq; omega
  | succ k ih =>
    intro items p g τ hF hp hrd hw hrw hg hk hi hq
    have hX := TXM_F h hF
    have ht := tok_b h.2.2 hp
    have htS := tS_b (b := b) hp
    have e12 := hrd.2.2.1
    have kr := tK_r (b := b) (N := N) p
    simp only [parL] at hq
    by_cases cz : tK b N p = 0
    · rw [if_pos cz] at hq
      have e12' : gg τ 71 12 = 0 := e12.trans cz
      have K1 : ∀ K, CalK (d + 10) 136 [.inr (.inr (.inl 73)), .inl 0, .inr (.inr (.inl 72)), .inl 0, .inl 221] τ K = K aU (mR τ 72 0 221 (fun x => ga τ 73 (0 + (x : Int)))) := fun K => k136 (d := d + 9) (f := 73) (t := 72) (i := 0) (j := 0) (N := 221) shC_73 shC_72 (by rw [shL_73]; omega) (by rw [shL_72]; omega) (Or.inl (by omega))
      simp (disch := first | with_reducible assumption | omega | exact ga_in _ _ _ | exact gg_in _ _ _ | (unfold InR; omega) | (unfold InL; omega) | (simp only [shC_71, shC_72, shC_73, shC_74, shC_75, shC_76, shC_77, shC_78, shC_79, shL_72, shL_73, shL_74, shL_75, shL_76, shL_77, shL_78, shL_79]; first | done | omega)) only [q156_54, q156_55, q156_58, q156_61, q156_62, q156_65, q156_68, q156_69, q156_72, q156_75, q156_77, q156_78, q156_81, q156_82, q156_83, q156_84, q156_87, q156_88, q156_89, q156_92, q156_93, q156_96, q156_99, q156_100, shC_71, shC_72, shC_73, shC_74, shC_75, shC_76, shC_77, shC_78, shC_79, shL_72, shL_73, shL_74, shL_75, shL_76, shL_77, shL_78, shL_79, shR_71_0, shR_71_1, shR_71_2, shR_71_3, shR_71_4, shR_71_5, shR_71_8, shR_71_15, e12', hw, K1, pushR_I, pushR_L, pushR_R, pushR_V, InR_gg, InR_ga, InR_wr, InL_gl, InR_b, b01, b01_0, if_true, if_false, not_true_eq_false, not_false_eq_true, and_true, true_and, and_self, Sum.inl.injEq, one0, Bool.false_eq_true]
      exact hq _ _ ⟨rfl, fun _ => ⟨τ, hF, hrw, rfl⟩, fun z => by have z' : items < 0 := z; omega⟩
    · rw [if_neg cz] at hq
      have e12' : ¬ gg τ 71 12 = 0 := by rw [e12]; exact cz
      have hlt := ht.2.2.1 cz
      have hok := itF_ok h.2.2 hp cz hg
      have i0 : ¬ items = 0 := by omega
      simp (disch := first | with_reducible assumption | omega | exact ga_in _ _ _ | exact gg_in _ _ _ | (unfold InR; omega) | (unfold InL; omega) | (simp only [shC_71, shC_72, shC_73, shC_74, shC_75, shC_76, shC_77, shC_78, shC_79, shL_72, shL_73, shL_74, shL_75, shL_76, shL_77, shL_78, shL_79]; first | done | omega)) only [q156_54, q156_55, q156_58, q156_61, q156_62, q156_65, q156_38, q156_39, q156_40, q156_43, q156_44, q156_47, q156_48, shC_71, shC_72, shC_73, shC_74, shC_75, shC_76, shC_77, shC_78, shC_79, shL_72, shL_73, shL_74, shL_75, shL_76, shL_77, shL_78, shL_79, shR_71_0, shR_71_1, shR_71_2, shR_71_3, shR_71_4, shR_71_5, shR_71_8, shR_71_15, e12', hw, i0, pushR_I, pushR_L, pushR_R, pushR_V, InR_gg, InR_ga, InR_wr, InL_gl, InR_b, b01, b01_0, if_true, if_false, not_true_eq_false, not_false_eq_true, and_true, true_and, and_self, Sum.inl.injEq, one0, Bool.false_eq_true]
      refine CalK_E (m155 (d := d + 1) hX hp cz hrd hw hrw hg) (fun r υ hP => ?_)
      generalize itF b N p g = R at hq hok hP
      obtain ⟨rfl, hF2, h1, h2⟩ := hP
      have ht2 := tok_b h.2.2 hok.2.1
      have htS2 := tS_b (b := b) hok.2.1
      have ht3 := tok_b h.2.2 ht2.2.1
      have htS3 := tS_b (b := b) ht2.2.1
      simp (disch := first | with_reducible assumption | omega | exact ga_in _ _ _ | exact gg_in _ _ _ | (unfold InR; omega) | (unfold InL; omega) | (simp only [shC_71, shC_72, shC_73, shC_74, shC_75, shC_76, shC_77, shC_78, shC_79, shL_72, shL_73, shL_74, shL_75, shL_76, shL_77, shL_78, shL_79]; first | done | omega)) only [q156_51, pushR_I, pushR_L, pushR_R, pushR_V, InR_gg, InR_ga, InR_wr, InL_gl, InR_b, b01, b01_0, if_true, if_false, not_true_eq_false, not_false_eq_true, and_true, true_and, and_self, Sum.inl.injEq, one0, Bool.false_eq_true]
      by_cases c : R.1 = true ∧ tK b N (tE b N R.2.1) = 3
      · obtain ⟨hrd2, hw2, hrw2⟩ := h1 c
        rw [if_pos c.1, if_pos c.2] at hq
        have h3 := ht3.2.2.1 (by rw [c.2]; omega)
        have hpR := hok.2.2 c.1
        exact ih (items + 1) (tE b N (tE b N R.2.1)) R.2.2 υ (FRMM_trans hF hF2) ht3.2.1 hrd2 hw2 hrw2 hok.1 (by omega) (by omega) hq
      · obtain ⟨hrd2, hw2⟩ := h2 c
        have e11 := hrd2.2.1
        have fin : ∀ q : Nat, q ≤ N → gg υ 71 11 = (q : Int) → (∀ r φ, RMR σ (-10 - (q : Int), R.2.2) r φ → Q r φ) → Wp none (d + 10) 156 54 [.inr (.inr (.inl 71)), .inl (items + 1)] [] υ Q := fun q hqN e hq2 => by
          have post := hq2 (.inl (-10 - (q : Int))) υ ⟨rfl, fun z => by have z' : 0 ≤ -10 - (q : Int) := z; omega, fun _ => FRMM_trans hF hF2⟩
          by_cases cz2 : gg υ 71 12 = 0
          · simp (disch := first | with_reducible assumption | omega | exact ga_in _ _ _ | exact gg_in _ _ _ | (unfold InR; omega) | (unfold InL; omega) | (simp only [shC_71, shC_72, shC_73, shC_74, shC_75, shC_76, shC_77, shC_78, shC_79, shL_72, shL_73, shL_74, shL_75, shL_76, shL_77, shL_78, shL_79]; first | done | omega)) only [q156_54, q156_55, q156_58, q156_61, q156_62, q156_65, q156_68, q156_69, q156_72, q156_75, q156_77, q156_78, q156_81, q156_82, shC_71, shC_72, shC_73, shC_74, shC_75, shC_76, shC_77, shC_78, shC_79, shL_72, shL_73, shL_74, shL_75, shL_76, shL_77, shL_78, shL_79, shR_71_0, shR_71_1, shR_71_2, shR_71_3, shR_71_4, shR_71_5, shR_71_8, shR_71_15, cz2, hw2, e, pushR_I, pushR_L, pushR_R, pushR_V, InR_gg, InR_ga, InR_wr, InL_gl, InR_b, b01, b01_0, if_true, if_false, not_true_eq_false, not_false_eq_true, and_true, true_and, and_self, Sum.inl.injEq, one0, Bool.false_eq_true]
            exact post
          · simp (disch := first | with_reducible assumption | omega | exact ga_in _ _ _ | exact gg_in _ _ _ | (unfold InR; omega) | (unfold InL; omega) | (simp only [shC_71, shC_72, shC_73, shC_74, shC_75, shC_76, shC_77, shC_78, shC_79, shL_72, shL_73, shL_74, shL_75, shL_76, shL_77, shL_78, shL_79]; first | done | omega)) only [q156_54, q156_55, q156_58, q156_61, q156_62, q156_65, q156_68, q156_69, q156_72, q156_75, q156_77, q156_78, q156_81, q156_82, shC_71, shC_72, shC_73, shC_74, shC_75, shC_76, shC_77, shC_78, shC_79, shL_72, shL_73, shL_74, shL_75, shL_76, shL_77, shL_78, shL_79, shR_71_0, shR_71_1, shR_71_2, shR_71_3, shR_71_4, shR_71_5, shR_71_8, shR_71_15, cz2, hw2, e, pushR_I, pushR_L, pushR_R, pushR_V, InR_gg, InR_ga, InR_wr, InL_gl, InR_b, b01, b01_0, if_true, if_false, not_true_eq_false, not_false_eq_true, and_true, true_and, and_self, Sum.inl.injEq, one0, Bool.false_eq_true]
            exact post
        by_cases c1 : R.1 = true
        · have c2 : ¬ tK b N (tE b N R.2.1) = 3 := fun z => c ⟨c1, z⟩
          rw [if_pos c1] at e11
          rw [if_pos c1, if_neg c2] at hq
          exact fin _ (by omega) e11 hq
        · rw [if_neg c1] at e11
          rw [if_neg c1] at hq
          exact fin _ (by omega) e11 hq
theorem l156z : ∀ (n i : Nat), i + n = 221 → Wp none (d + 10) 156 2 [.inr (.inr (.inl 71)), .inl (i : Int)] [] (mR σ 73 0 i (fun _ => 0)) Q = Wp none (d + 10) 156 22 [.inr (.inr (.inl 71)), .inl 221] [] (mR σ 73 0 221 (fun _ => 0)) Q := by
  intro n
  induction n with
  | zero =>
    intro i hi
    have e : i = 221 := by omega
    subst e
    have e3 : ((221 : Nat) : Int) = 221 := rfl
    simp (disch := first | with_reducible assumption | omega | exact ga_in _ _ _ | exact gg_in _ _ _ | (unfold InR; omega) | (unfold InL; omega) | (simp only [shC_71, shC_72, shC_73, shC_74, shC_75, shC_76, shC_77, shC_78, shC_79, shL_72, shL_73, shL_74, shL_75, shL_76, shL_77, shL_78, shL_79]; first | done | omega)) only [q156_2, q156_3, q156_6, e3, Int.le_refl, pushR_I, pushR_L, pushR_R, pushR_V, InR_gg, InR_ga, InR_wr, InL_gl, InR_b, b01, b01_0, if_true, if_false, not_true_eq_false, not_false_eq_true, and_true, true_and, and_self, Sum.inl.injEq, one0, Bool.false_eq_true]
  | succ n ih =>
    intro i hi
    have e : ¬ (221 : Int) ≤ (i : Int) := by omega
    have e3 : ((221 : Nat) : Int) = 221 := rfl
    simp (disch := first | with_reducible assumption | omega | exact ga_in _ _ _ | exact gg_in _ _ _ | (unfold InR; omega) | (unfold InL; omega) | (simp only [shC_71, shC_72, shC_73, shC_74, shC_75, shC_76, shC_77, shC_78, shC_79, shL_72, shL_73, shL_74, shL_75, shL_76, shL_77, shL_78, shL_79]; first | done | omega)) only [q156_2, q156_3, q156_6, q156_9, q156_10, q156_13, q156_14, q156_15, q156_16, shC_71, shC_72, shC_73, shC_74, shC_75, shC_76, shC_77, shC_78, shC_79, shL_72, shL_73, shL_74, shL_75, shL_76, shL_77, shL_78, shL_79, shR_71_0, shR_71_1, shR_71_2, shR_71_3, shR_71_4, shR_71_5, shR_71_8, shR_71_15, e3, e, pushR_I, pushR_L, pushR_R, pushR_V, InR_gg, InR_ga, InR_wr, InL_gl, InR_b, b01, b01_0, if_true, if_false, not_true_eq_false, not_false_eq_true, and_true, true_and, and_self, Sum.inl.injEq, one0, Bool.false_eq_true]
    rw [q156_19, mR_step (b := 0) (i := i) (g := fun _ => 0) σ (by omega) rfl]
    exact ih (i + 1) (by omega)
theorem m156 (h : TXM σ b N) : CalE (d + 11) 156 [.inr (.inr (.inl 71))] σ (RMR σ (parF b N)) := by
  have hN := h.2.2.1
  have ht0 := tok_b h.2.2 (Nat.zero_le N)
  have htS0 := tS_b (b := b) (Nat.zero_le N)
  have ht1 := tok_b h.2.2 ht0.2.1
  have htS1 := tS_b (b := b) ht0.2.1
  refine Cal_ex (ls := [.inr (.inr (.inl 71)), aU]) rfl mna_156 mml_156 mhl_156 rfl rfl ?_
  simp (disch := first | with_reducible assumption | omega | exact ga_in _ _ _ | exact gg_in _ _ _ | (unfold InR; omega) | (unfold InL; omega) | (simp only [shC_71, shC_72, shC_73, shC_74, shC_75, shC_76, shC_77, shC_78, shC_79, shL_72, shL_73, shL_74, shL_75, shL_76, shL_77, shL_78, shL_79]; first | done | omega)) only [q156_0, q156_1, pushR_I, pushR_L, pushR_R, pushR_V, InR_gg, InR_ga, InR_wr, InL_gl, InR_b, b01, b01_0, if_true, if_false, not_true_eq_false, not_false_eq_true, and_true, true_and, and_self, Sum.inl.injEq, one0, Bool.false_eq_true]
  have hz := l156z (d := d) (σ := σ) (Q := RMR σ (parF b N)) 221 0 (by omega)
  rw [mR_0] at hz
  refine hz.mpr ?_
  simp (disch := first | with_reducible assumption | omega | exact ga_in _ _ _ | exact gg_in _ _ _ | (unfold InR; omega) | (unfold InL; omega) | (simp only [shC_71, shC_72, shC_73, shC_74, shC_75, shC_76, shC_77, shC_78, shC_79, shL_72, shL_73, shL_74, shL_75, shL_76, shL_77, shL_78, shL_79]; first | done | omega)) only [q156_22, q156_23, q156_24, q156_27, q156_28, q156_29, q156_32, q156_33, q156_34, q156_35, shC_71, shC_72, shC_73, shC_74, shC_75, shC_76, shC_77, shC_78, shC_79, shL_72, shL_73, shL_74, shL_75, shL_76, shL_77, shL_78, shL_79, shR_71_0, shR_71_1, shR_71_2, shR_71_3, shR_71_4, shR_71_5, shR_71_8, shR_71_15, pushR_I, pushR_L, pushR_R, pushR_V, InR_gg, InR_ga, InR_wr, InL_gl, InR_b, b01, b01_0, if_true, if_false, not_true_eq_false, not_false_eq_true, and_true, true_and, and_self, Sum.inl.injEq, one0, Bool.false_eq_true]
  have ho : ONE 73 σ (mR σ 73 0 221 (fun _ => 0)) := ONE_mR (ONE_refl 73 σ)
  have hs : SAM S71 (mR σ 73 0 221 (fun _ => 0)) (ug (ug (mR σ 73 0 221 (fun _ => 0)) 71 10 0) 71 14 0) := SAM_ug (SAM_ug (SAM_refl _ _) ⟨rfl, by omega, by omega⟩) ⟨rfl, by omega, by omega⟩
  have hF0 : FRMM σ (ug (ug (mR σ 73 0 221 (fun _ => 0)) 71 10 0) 71 14 0) := FRMM_trans (FRMM_73 ho) (FRMM_71 hs)
  have hrw0 : RW (mR σ 73 0 221 (fun _ => 0)) 73 221 (fun _ => 0) := fun i a c => by
    rw [ga_mR _ _ _ _ _ _ a, if_pos rfl, if_pos ⟨by omega, by omega⟩]
    rfl
  have f10 : gg (ug (ug (mR σ 73 0 221 (fun _ => 0)) 71 10 0) 71 14 0) 71 10 = ((0 : Nat) : Int) := by rw [gg_ug_ne _ _ _ _ _ _ (by omega), gg_ug_eq]; rfl
  have f14 : gg (ug (ug (mR σ 73 0 221 (fun _ => 0)) 71 10 0) 71 14 0) 71 14 = 0 := by rw [gg_ug_eq]; rfl
  refine CalK_E (m147 (d := d + 7) (TXM_F h hF0) (Nat.zero_le N) f10) (fun r τ hP => ?_)
  obtain ⟨rfl, hs2, hrd, h14⟩ := hP
  have hw : gg τ 71 14 = 0 := h14.trans f14
  have hF1 := FRMM_trans hF0 (FRMM_71 hs2)
  simp (disch := first | with_reducible assumption | omega | exact ga_in _ _ _ | exact gg_in _ _ _ | (unfold InR; omega) | (unfold InL; omega) | (simp only [shC_71, shC_72, shC_73, shC_74, shC_75, shC_76, shC_77, shC_78, shC_79, shL_72, shL_73, shL_74, shL_75, shL_76, shL_77, shL_78, shL_79]; first | done | omega)) only [q156_38, q156_39, q156_40, q156_43, q156_44, q156_47, q156_48, shC_71, shC_72, shC_73, shC_74, shC_75, shC_76, shC_77, shC_78, shC_79, shL_72, shL_73, shL_74, shL_75, shL_76, shL_77, shL_78, shL_79, shR_71_0, shR_71_1, shR_71_2, shR_71_3, shR_71_4, shR_71_5, shR_71_8, shR_71_15, pushR_I, pushR_L, pushR_R, pushR_V, InR_gg, InR_ga, InR_wr, InL_gl, InR_b, b01, b01_0, if_true, if_false, not_true_eq_false, not_false_eq_true, and_true, true_and, and_self, Sum.inl.injEq, one0, Bool.false_eq_true]
  refine CalK_E (m155f (d := d + 1) (TXM_F h hF1) hrd hw (RW_71 (RW_71 hrw0 hs) hs2)) (fun r υ hP => ?_)
  obtain ⟨rfl, hF2, h1, h2⟩ := hP
  have hF3 := FRMM_trans hF1 hF2
  have h1 : isWd b N 0 0 = true ∧ tK b N (tE b N 0) = 3 → RDM υ b N (tE b N (tE b N 0)) ∧ gg υ 71 14 = 0 ∧ RW υ 73 221 (fun _ => 0) := h1
  have h2 : ¬ (isWd b N 0 0 = true ∧ tK b N (tE b N 0) = 3) → RDM υ b N (if isWd b N 0 0 = true then tE b N 0 else 0) ∧ gg υ 71 14 = 1 := h2
  have e01 : (0 : Int) + 1 = 1 := rfl
  simp (disch := first | with_reducible assumption | omega | exact ga_in _ _ _ | exact gg_in _ _ _ | (unfold InR; omega) | (unfold InL; omega) | (simp only [shC_71, shC_72, shC_73, shC_74, shC_75, shC_76, shC_77, shC_78, shC_79, shL_72, shL_73, shL_74, shL_75, shL_76, shL_77, shL_78, shL_79]; first | done | omega)) only [q156_51, e01, pushR_I, pushR_L, pushR_R, pushR_V, InR_gg, InR_ga, InR_wr, InL_gl, InR_b, b01, b01_0, if_true, if_false, not_true_eq_false, not_false_eq_true, and_true, true_and, and_self, Sum.inl.injEq, one0, Bool.false_eq_true]
  unfold parF
  by_cases c : isWd b N 0 0 = true ∧ tK b N (tE b N 0) = 3
  · obtain ⟨hrd2, hw2, hrw2⟩ := h1 c
    rw [if_pos c.1, if_pos c.2]
    have h3 := ht1.2.2.1 (by rw [c.2]; omega)
    exact l156 (d := d) h (N + 1) 1 (tE b N (tE b N 0)) (fun _ => 0) υ hF3 ht1.2.1 hrd2 hw2 hrw2 ROK_zero (by omega) (by omega) (fun r φ hP => hP)
  · obtain ⟨hrd2, hw2⟩ := h2 c
    have e11 := hrd2.2.1
    have fin : ∀ (q : Nat) (G : Int → Int), q ≤ N → gg υ 71 11 = (q : Int) → Wp none (d + 10) 156 54 [.inr (.inr (.inl 71)), .inl 1] [] υ (RMR σ (-10 - (q : Int), G)) := fun q G hqN e => by
      have post : RMR σ (-10 - (q : Int), G) (.inl (-10 - (q : Int))) υ := ⟨rfl, fun z => by have z' : 0 ≤ -10 - (q : Int) := z; omega, fun _ => hF3⟩
      by_cases cz2 : gg υ 71 12 = 0
      · simp (disch := first | with_reducible assumption | omega | exact ga_in _ _ _ | exact gg_in _ _ _ | (unfold InR; omega) | (unfold InL; omega) | (simp only [shC_71, shC_72, shC_73, shC_74, shC_75, shC_76, shC_77, shC_78, shC_79, shL_72, shL_73, shL_74, shL_75, shL_76, shL_77, shL_78, shL_79]; first | done | omega)) only [q156_54, q156_55, q156_58, q156_61, q156_62, q156_65, q156_68, q156_69, q156_72, q156_75, q156_77, q156_78, q156_81, q156_82, shC_71, shC_72, shC_73, shC_74, shC_75, shC_76, shC_77, shC_78, shC_79, shL_72, shL_73, shL_74, shL_75, shL_76, shL_77, shL_78, shL_79, shR_71_0, shR_71_1, shR_71_2, shR_71_3, shR_71_4, shR_71_5, shR_71_8, shR_71_15, cz2, hw2, e, pushR_I, pushR_L, pushR_R, pushR_V, InR_gg, InR_ga, InR_wr, InL_gl, InR_b, b01, b01_0, if_true, if_false, not_true_eq_false, not_false_eq_true, and_true, true_and, and_self, Sum.inl.injEq, one0, Bool.false_eq_true]
        exact post
      · simp (disch := first | with_reducible assumption | omega | exact ga_in _ _ _ | exact gg_in _ _ _ | (unfold InR; omega) | (unfold InL; omega) | (simp only [shC_71, shC_72, shC_73, shC_74, shC_75, shC_76, shC_77, shC_78, shC_79, shL_72, shL_73, shL_74, shL_75, shL_76, shL_77, shL_78, shL_79]; first | done | omega)) only [q156_54, q156_55, q156_58, q156_61, q156_62, q156_65, q156_68, q156_69, q156_72, q156_75, q156_77, q156_78, q156_81, q156_82, shC_71, shC_72, shC_73, shC_74, shC_75, shC_76, shC_77, shC_78, shC_79, shL_72, shL_73, shL_74, shL_75, shL_76, shL_77, shL_78, shL_79, shR_71_0, shR_71_1, shR_71_2, shR_71_3, shR_71_4, shR_71_5, shR_71_8, shR_71_15, cz2, hw2, e, pushR_I, pushR_L, pushR_R, pushR_V, InR_gg, InR_ga, InR_wr, InL_gl, InR_b, b01, b01_0, if_true, if_false, not_true_eq_false, not_false_eq_true, and_true, true_and, and_self, Sum.inl.injEq, one0, Bool.false_eq_true]
        exact post
    by_cases c1 : isWd b N 0 0 = true
    · have c2 : ¬ tK b N (tE b N 0) = 3 := fun z => c ⟨c1, z⟩
      rw [if_pos c1] at e11
      rw [if_pos c1, if_neg c2]
      exact fin _ _ (by omega) e11
    · rw [if_neg c1] at e11
      rw [if_neg c1]
      exact fin _ _ (by omega) e11
theorem TXM_of (h : MR σ S) (hS : SOK S) : TXM σ (txB S) (S 4 2).toNat := by
  have hb := hS.2.2.2.2.2.2.1
  obtain ⟨h1, h2⟩ := h.2.2.2.2.1
  refine ⟨by omega, fun p hp => ?_, txB_ok hS⟩
  rw [h2 (p : Int) (by omega) (by omega)]
  unfold txB
  rw [if_pos (by omega)]
theorem MR_F {τ : SG} (h : MR σ S) (hs : FRMM σ τ) : MR τ S := MR_scr h (fun a b q => hs.1 a b (fun z => by unfold MRk at q; have := z.1; have := z.2.1; omega) (by unfold MRk at q; omega)) (fun b => hs.2 71 b)
theorem MLO_F {τ : SG} (hs : FRMM σ τ) : MLO σ τ := ⟨fun a b q => hs.1 a b (fun z => by have := z.1; omega) (by omega), fun a b _ => hs.2 a b⟩
theorem o156 (h : MR σ S) (hS : SOK S) : CalE (d + 20) 156 [.inr (.inr (.inl 71))] σ (OPM σ (fRead S)) := by
  obtain ⟨r, τ, hc, hr, h1, h2⟩ := m156 (d := d + 9) (TXM_of h hS)
  refine ⟨r, τ, hc, ?_⟩
  unfold fRead
  by_cases c : 0 ≤ (parF (txB S) (S 4 2).toNat).1
  · rw [if_pos c]
    obtain ⟨υ, hF, hrw, rfl⟩ := h1 c
    have hm := MO_row (v := (parF (txB S) (S 4 2).toNat).1) (g := (parF (txB S) (S 4 2).toNat).2) (MR_F h hF) (τ := mR υ 72 0 221 (fun x => ga υ 73 (0 + (x : Int)))) (fun i a c => by
      rw [ga_mR _ _ _ _ _ _ a, if_pos rfl, if_pos ⟨by omega, by omega⟩, wr_id (ga_in _ _ _), show (0 + ((i.toNat - 0 : Nat) : Int)) = i by omega]
      exact hrw i a c) (ONE_mR (ONE_refl 72 υ))
    exact ⟨hr, hm.2.1, MLO_trans (MLO_F hF) hm.2.2⟩
  · rw [if_neg c]
    have hF := h2 (by omega)
    exact ⟨hr, MR_F h hF, MLO_F hF⟩
end READM
