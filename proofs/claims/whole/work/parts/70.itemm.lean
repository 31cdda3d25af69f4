-- the reference reads items
def FRMM (σ τ : SG) : Prop := (∀ a b, ¬ S71 a b → ¬ a = 73 → gg τ a b = gg σ a b) ∧ ∀ a b, gl τ a b = gl σ a b
def wdF (a b c x e f : Int) : Int := if f = 0 then (if e = 0 then (if x = 0 then (a * 32 + b) * 32 + c else ((a * 32 + b) * 32 + c) * 32 + x) else (if x = 0 then (a * 32 + b) * 32 + c else ((a * 32 + b) * 32 + c) * 32 + x) * 32 + e) else (if e = 0 then (if x = 0 then (a * 32 + b) * 32 + c else ((a * 32 + b) * 32 + c) * 32 + x) else (if x = 0 then (a * 32 + b) * 32 + c else ((a * 32 + b) * 32 + c) * 32 + x) * 32 + e) * 32 + f
def numC (b : Nat → Int) (N p : Nat) (lo hi : Int) : Prop := tK b N p = 2 ∧ lo ≤ tV b N p ∧ tV b N p ≤ hi
def numR (σ : SG) (b : Nat → Int) (N p : Nat) (lo hi : Int) (r : AV) (τ : SG) : Prop := SAM S71 σ τ ∧
    ((gg σ 71 14 = 0 ∧ numC b N p lo hi → r = .inl (tV b N p) ∧ RDM τ b N (tE b N p) ∧ gg τ 71 14 = 0) ∧ (¬ (gg σ 71 14 = 0 ∧ numC b N p lo hi) → r = .inl 0 ∧ RDM τ b N p ∧ gg τ 71 14 = 1))
def wrdR (σ : SG) (b : Nat → Int) (N p : Nat) (may : Int) (r : AV) (τ : SG) : Prop := r = aU ∧ SAM S71 σ τ ∧
    ((gg σ 71 14 = 0 ∧ may = 1 → RDM τ b N (tE b N p) ∧ gg τ 71 14 = 0) ∧ (¬ (gg σ 71 14 = 0 ∧ may = 1) → RDM τ b N p ∧ gg τ 71 14 = 1))
section ITEMM
variable {d : Nat} {σ : SG} {b : Nat → Int} {N : Nat} {K : AV → SG → Prop} {Q : AV → SG → Prop}
theorem FRMM_refl (σ : SG) : FRMM σ σ := ⟨fun _ _ _ _ => rfl, fun _ _ => rfl⟩
theorem FRMM_trans {σ τ υ : SG} (h1 : FRMM σ τ) (h2 : FRMM τ υ) : FRMM σ υ := ⟨fun a b q r => (h2.1 a b q r).trans (h1.1 a b q r), fun a b => (h2.2 a b).trans (h1.2 a b)⟩
theorem FRMM_71 {σ τ : SG} (h : SAM S71 σ τ) : FRMM σ τ := ⟨fun a b q _ => h.1 a b q, h.2⟩
theorem FRMM_73 {σ τ : SG} (h : ONE 73 σ τ) : FRMM σ τ := ⟨fun a b _ r => h.1 a b r, h.2⟩
theorem TXM_F {τ : SG} (h : TXM σ b N) (hs : FRMM σ τ) : TXM τ b N :=
  ⟨by rw [hs.1 _ _ (fun q => by have := q.2.1; omega) (by omega), h.1], fun p hp => (hs.1 78 _ (fun q => by have := q.1; omega) (by omega)).trans (h.2.1 p hp), h.2.2⟩
theorem RDM_73 {τ : SG} {p : Nat} (h : RDM σ b N p) (hs : ONE 73 σ τ) : RDM τ b N p :=
  ⟨(hs.1 _ _ (by omega)).trans h.1, (hs.1 _ _ (by omega)).trans h.2.1, (hs.1 _ _ (by omega)).trans h.2.2.1, fun q => (hs.1 _ _ (by omega)).trans (h.2.2.2.1 q), fun q => (hs.1 _ _ (by omega)).trans (h.2.2.2.2 q)⟩
theorem RDM_14 {v : Int} {p : Nat} (h : RDM σ b N p) : RDM (ug σ 71 14 v) b N p :=
  ⟨(gg_ug_ne _ _ _ _ _ _ (by omega)).trans h.1, (gg_ug_ne _ _ _ _ _ _ (by omega)).trans h.2.1, (gg_ug_ne _ _ _ _ _ _ (by omega)).trans h.2.2.1, fun q => (gg_ug_ne _ _ _ _ _ _ (by omega)).trans (h.2.2.2.1 q), fun q => (gg_ug_ne _ _ _ _ _ _ (by omega)).trans (h.2.2.2.2 q)⟩
theorem RW_71 {τ : SG} {g : Int → Int} (h : RW σ 73 221 g) (hs : SAM S71 σ τ) : RW τ 73 221 g := fun i a c => (hs.1 73 _ (fun q => by have := q.1; omega)).trans (h i a c)
theorem m146 {x0 x1 x2 x3 x4 x5 : Int} (h0 : 0 ≤ x0 ∧ x0 ≤ 26) (h1 : 0 ≤ x1 ∧ x1 ≤ 26) (h2 : 0 ≤ x2 ∧ x2 ≤ 26) (h3 : 0 ≤ x3 ∧ x3 ≤ 26) (h4 : 0 ≤ x4 ∧ x4 ≤ 26) (h5 : 0 ≤ x5 ∧ x5 ≤ 26) : Cal (d + 1) 146 [.inl x0, .inl x1, .inl x2, .inl x3, .inl x4, .inl x5] σ (.inl (wdF x0 x1 x2 x3 x4 x5)) σ := by
  refine Cal_in (ls := [.inl x0, .inl x1, .inl x2, .inl x3, .inl x4, .inl x5, aU]) rfl mna_146 mml_146 mhl_146 rfl rfl ?_
  unfold wdF
  by_cases c3 : x3 = 0
  · by_cases c4 : x4 = 0
    · by_cases c5 : x5 = 0
      · simp (disch := first | with_reducible assumption | omega | exact ga_in _ _ _ | exact gg_in _ _ _ | (unfold InR; omega) | (unfold InL; omega) | (simp only [shC_71, shC_72, shC_73, shC_74, shC_75, shC_76, shC_77, shC_78, shC_79, shL_72, shL_73, shL_74, shL_75, shL_76, shL_77, shL_78, shL_79]; first | done | omega)) only [q146_0, q146_1, q146_3, q146_4, q146_5, q146_6, q146_8, q146_9, q146_10, q146_11, q146_13, q146_14, q146_17, q146_19, q146_22, q146_24, q146_26, q146_27, q146_28, q146_29, q146_31, q146_33, q146_36, q146_38, q146_41, q146_43, q146_45, q146_46, q146_48, q146_49, q146_51, q146_53, q146_56, q146_58, q146_61, q146_63, q146_65, q146_66, q146_68, q146_69, c3, c4, c5, pushR_I, pushR_L, pushR_R, pushR_V, InR_gg, InR_ga, InR_wr, InL_gl, InR_b, b01, b01_0, if_true, if_false, not_true_eq_false, not_false_eq_true, and_true, true_and, and_self, Sum.inl.injEq, one0, Bool.false_eq_true]
      · simp (disch := first | with_reducible assumption | omega | exact ga_in _ _ _ | exact gg_in _ _ _ | (unfold InR; omega) | (unfold InL; omega) | (simp only [shC_71, shC_72, shC_73, shC_74, shC_75, shC_76, shC_77, shC_78, shC_79, shL_72, shL_73, shL_74, shL_75, shL_76, shL_77, shL_78, shL_79]; first | done | omega)) only [q146_0, q146_1, q146_3, q146_4, q146_5, q146_6, q146_8, q146_9, q146_10, q146_11, q146_13, q146_14, q146_17, q146_19, q146_22, q146_24, q146_26, q146_27, q146_28, q146_29, q146_31, q146_33, q146_36, q146_38, q146_41, q146_43, q146_45, q146_46, q146_48, q146_49, q146_51, q146_53, q146_56, q146_58, q146_61, q146_63, q146_65, q146_66, q146_68, q146_69, c3, c4, c5, pushR_I, pushR_L, pushR_R, pushR_V, InR_gg, InR_ga, InR_wr, InL_gl, InR_b, b01, b01_0, if_true, if_false, not_true_eq_false, not_false_eq_true, and_true, true_and, and_self, Sum.inl.injEq, one0, Bool.false_eq_true]
    · by_cases c5 : x5 = 0
      · simp (disch := first | with_reducible assumption | omega | exact ga_in _ _ _ | exact gg_in _ _ _ | (unfold InR; omega) | (unfold InL; omega) | (simp only [shC_71, shC_72, shC_73, shC_74, shC_75, shC_76, shC_77, shC_78, shC_79, shL_72, shL_73, shL_74, shL_75, shL_76, shL_77, shL_78, shL_79]; first | done | omega)) only [q146_0, q146_1, q146_3, q146_4, q146_5, q146_6, q146_8, q146_9, q146_10, q146_11, q146_13, q146_14, q146_17, q146_19, q146_22, q146_24, q146_26, q146_27, q146_28, q146_29, q146_31, q146_33, q146_36, q146_38, q146_41, q146_43, q146_45, q146_46, q146_48, q146_49, q146_51, q146_53, q146_56, q146_58, q146_61, q146_63, q146_65, q146_66, q146_68, q146_69, c3, c4, c5, pushR_I, pushR_L, pushR_R, pushR_V, InR_gg, InR_ga, InR_wr, InL_gl, InR_b, b01, b01_0, if_true, if_false, not_true_eq_false, not_false_eq_true, and_true, true_and, and_self, Sum.inl.injEq, one0, Bool.false_eq_true]
      · simp (disch := first | with_reducible assumption | omega | exact ga_in _ _ _ | exact gg_in _ _ _ | (unfold InR; omega) | (unfold InL; omega) | (simp only [shC_71, shC_72, shC_73, shC_74, shC_75, shC_76, shC_77, shC_78, shC_79, shL_72, shL_73, shL_74, shL_75, shL_76, shL_77, shL_78, shL_79]; first | done | omega)) only [q146_0, q146_1, q146_3, q146_4, q146_5, q146_6, q146_8, q146_9, q146_10, q146_11, q146_13, q146_14, q146_17, q146_19, q146_22, q146_24, q146_26, q146_27, q146_28, q146_29, q146_31, q146_33, q146_36, q146_38, q146_41, q146_43, q146_45, q146_46, q146_48, q146_49, q146_51, q146_53, q146_56, q146_58, q146_61, q146_63, q146_65, q146_66, q146_68, q146_69, c3, c4, c5, pushR_I, pushR_L, pushR_R, pushR_V, InR_gg, InR_ga, InR_wr, InL_gl, InR_b, b01, b01_0, if_true, if_false, not_true_eq_false, not_false_eq_true, and_true, true_and, and_self, Sum.inl.injEq, one0, Bool.false_eq_true]
  · by_cases c4 : x4 = 0
    · by_cases c5 : x5 = 0
      · simp (disch := first | with_reducible assumption | omega | exact ga_in _ _ _ | exact gg_in _ _ _ | (unfold InR; omega) | (unfold InL; omega) | (simp only [shC_71, shC_72, shC_73, shC_74, shC_75, shC_76, shC_77, shC_78, shC_79, shL_72, shL_73, shL_74, shL_75, shL_76, shL_77, shL_78, shL_79]; first | done | omega)) only [q146_0, q146_1, q146_3, q146_4, q146_5, q146_6, q146_8, q146_9, q146_10, q146_11, q146_13, q146_14, q146_17, q146_19, q146_22, q146_24, q146_26, q146_27, q146_28, q146_29, q146_31, q146_33, q146_36, q146_38, q146_41, q146_43, q146_45, q146_46, q146_48, q146_49, q146_51, q146_53, q146_56, q146_58, q146_61, q146_63, q146_65, q146_66, q146_68, q146_69, c3, c4, c5, pushR_I, pushR_L, pushR_R, pushR_V, InR_gg, InR_ga, InR_wr, InL_gl, InR_b, b01, b01_0, if_true, if_false, not_true_eq_false, not_false_eq_true, and_true, true_and, and_self, Sum.inl.injEq, one0, Bool.false_eq_true]
      · simp (disch := first | with_reducible assumption | omega | exact ga_in _ _ _ | exact gg_in _ _ _ | (unfold InR; omega) | (unfold InL; omega) | (simp only [shC_71, shC_72, shC_73, shC_74, shC_75, shC_76, shC_77, shC_78, shC_79, shL_72, shL_73, shL_74, shL_75, shL_76, shL_77, shL_78, shL_79]; first | done | omega)) only [q146_0, q146_1, q146_3, q146_4, q146_5, q146_6, q146_8, q146_9, q146_10, q146_11, q146_13, q146_14, q146_17, q146_19, q146_22, q146_24, q146_26, q146_27, q146_28, q146_29, q146_31, q146_33, q146_36, q146_38, q146_41, q146_43, q146_45, q146_46, q146_48, q146_49, q146_51, q146_53, q146_56, q146_58, q146_61, q146_63, q146_65, q146_66, q146_68, q146_69, c3, c4, c5, pushR_I, pushR_L, pushR_R, pushR_V, InR_gg, InR_ga, InR_wr, InL_gl, InR_b, b01, b01_0, if_true, if_false, not_true_eq_false, not_false_eq_true, and_true, true_and, and_self, Sum.inl.injEq, one0, Bool.false_eq_true]
    · by_cases c5 : x5 = 0
      · simp (disch := first | with_reducible assumption | omega | exact ga_in _ _ _ | exact gg_in _ _ _ | (unfold InR; omega) | (unfold InL; omega) | (simp only [shC_71, shC_72, shC_73, shC_74, shC_75, shC_76, shC_77, shC_78, shC_79, shL_72, shL_73, shL_74, shL_75, shL_76, shL_77, shL_78, shL_79]; first | done | omega)) only [q146_0, q146_1, q146_3, q146_4, q146_5, q146_6, q146_8, q146_9, q146_10, q146_11, q146_13, q146_14, q146_17, q146_19, q146_22, q146_24, q146_26, q146_27, q146_28, q146_29, q146_31, q146_33, q146_36, q146_38, q146_41, q146_43, q146_45, q146_46, q146_48, q146_49, q146_51, q146_53, q146_56, q146_58, q146_61, q146_63, q146_65, q146_66, q146_68, q146_69, c3, c4, c5, pushR_I, pushR_L, pushR_R, pushR_V, InR_gg, InR_ga, InR_wr, InL_gl, InR_b, b01, b01_0, if_true, if_false, not_true_eq_false, not_false_eq_true, and_true, true_and, and_self, Sum.inl.injEq, one0, Bool.false_eq_true]
      · simp (disch := first | with_reducible assumption | omega | exact ga_in _ _ _ | exact gg_in _ _ _ | (unfold InR; omega) | (unfold InL; omega) | (simp only [shC_71, shC_72, shC_73, shC_74, shC_75, shC_76, shC_77, shC_78, shC_79, shL_72, shL_73, shL_74, shL_75, shL_76, shL_77, shL_78, shL_79]; first | done | omega)) only [q146_0, q146_1, q146_3, q146_4, q146_5, q146_6, q146_8, q146_9, q146_10, q146_11, q146_13, q146_14, q146_17, q146_19, q146_22, q146_24, q146_26, q146_27, q146_28, q146_29, q146_31, q146_33, q146_36, q146_38, q146_41, q146_43, q146_45, q146_46, q146_48, q146_49, q146_51, q146_53, q146_56, q146_58, q146_61, q146_63, q146_65, q146_66, q146_68, q146_69, c3, c4, c5, pushR_I, pushR_L, pushR_R, pushR_V, InR_gg, InR_ga, InR_wr, InL_gl, InR_b, b01, b01_0, if_true, if_false, not_true_eq_false, not_false_eq_true, and_true, true_and, and_self, Sum.inl.injEq, one0, Bool.false_eq_true]
theorem k146 {x0 x1 x2 x3 x4 x5 : Int} (h0 : 0 ≤ x0 ∧ x0 ≤ 26) (h1 : 0 ≤ x1 ∧ x1 ≤ 26) (h2 : 0 ≤ x2 ∧ x2 ≤ 26) (h3 : 0 ≤ x3 ∧ x3 ≤ 26) (h4 : 0 ≤ x4 ∧ x4 ≤ 26) (h5 : 0 ≤ x5 ∧ x5 ≤ 26) : CalK (d + 1) 146 [.inl x0, .inl x1, .inl x2, .inl x3, .inl x4, .inl x5] σ K = K (.inl (wdF x0 x1 x2 x3 x4 x5)) σ := CalK_eq (m146 h0 h1 h2 h3 h4 h5)
/-- a number taken -/
theorem m148 (h : TXM σ b N) {p : Nat} (hp : p ≤ N) (hr : RDM σ b N p) {lo hi : Int} (hlo : InR lo) (hhi : InR hi) (hw : gg σ 71 14 = 0 ∨ gg σ 71 14 = 1) : CalE (d + 4) 148 [.inr (.inr (.inl 71)), .inl lo, .inl hi] σ (numR σ b N p lo hi) := by
  have hr' := hr
  obtain ⟨r1, r2, r3, r4, r5⟩ := hr
  have hS : ∀ v, SAM S71 σ (ug σ 71 14 v) := fun v => SAM_ug (SAM_refl _ _) ⟨rfl, by omega, by omega⟩
  have hv : InR (gg σ 71 13) := gg_in _ _ _
  have f13 : ∀ v, gg (ug σ 71 14 v) 71 13 = gg σ 71 13 := fun v => gg_ug_ne _ _ _ _ _ _ (by omega)
  refine Cal_ex (ls := [.inr (.inr (.inl 71)), .inl lo, .inl hi, aU, aU]) rfl mna_148 mml_148 mhl_148 rfl rfl ?_
  have bad : Wp none (d + 3) 148 32 [.inr (.inr (.inl 71)), .inl lo, .inl hi, aU, aU] [.inl 0] σ (fun r τ => SAM S71 σ τ ∧ (r = .inl 0 ∧ RDM τ b N p ∧ gg τ 71 14 = 1)) := by
    simp (disch := first | with_reducible assumption | omega | exact ga_in _ _ _ | exact gg_in _ _ _ | (unfold InR; omega) | (unfold InL; omega) | (simp only [shC_71, shC_72, shC_73, shC_74, shC_75, shC_76, shC_77, shC_78, shC_79, shL_72, shL_73, shL_74, shL_75, shL_76, shL_77, shL_78, shL_79]; first | done | omega)) only [q148_32, q148_33, q148_34, q148_35, q148_38, q148_39, q148_42, q148_43, q148_46, q148_47, q148_50, q148_52, q148_53, q148_56, q148_57, q148_60, q148_61, q148_64, q148_66, q148_69, q148_70, shC_71, shC_72, shC_73, shC_74, shC_75, shC_76, shC_77, shC_78, shC_79, shL_72, shL_73, shL_74, shL_75, shL_76, shL_77, shL_78, shL_79, shR_71_0, shR_71_1, shR_71_2, shR_71_3, shR_71_4, shR_71_5, shR_71_8, shR_71_15, f13, pushR_I, pushR_L, pushR_R, pushR_V, InR_gg, InR_ga, InR_wr, InL_gl, InR_b, b01, b01_0, if_true, if_false, not_true_eq_false, not_false_eq_true, and_true, true_and, and_self, Sum.inl.injEq, one0, Bool.false_eq_true]
    refine ⟨hS 1, RDM_14 hr', ?_⟩
    rw [gg_ug_eq]
    rfl
  by_cases cw : gg σ 71 14 = 0
  · by_cases ck : tK b N p = 2
    · have e12 : gg σ 71 12 = 2 := r3.trans ck
      have e13 := r4 ck
      have hvr : InR (tV b N p) := by rw [← e13]; exact hv
      by_cases cv : lo ≤ tV b N p ∧ tV b N p ≤ hi
      · simp (disch := first | with_reducible assumption | omega | exact ga_in _ _ _ | exact gg_in _ _ _ | (unfold InR; omega) | (unfold InL; omega) | (simp only [shC_71, shC_72, shC_73, shC_74, shC_75, shC_76, shC_77, shC_78, shC_79, shL_72, shL_73, shL_74, shL_75, shL_76, shL_77, shL_78, shL_79]; first | done | omega)) only [q148_0, q148_1, q148_4, q148_7, q148_8, q148_11, q148_12, q148_15, q148_16, q148_19, q148_20, q148_21, q148_24, q148_27, q148_28, q148_31, q148_32, q148_33, q148_34, q148_35, q148_38, q148_39, q148_42, q148_43, q148_46, q148_47, q148_50, q148_52, q148_53, q148_56, q148_57, shC_71, shC_72, shC_73, shC_74, shC_75, shC_76, shC_77, shC_78, shC_79, shL_72, shL_73, shL_74, shL_75, shL_76, shL_77, shL_78, shL_79, shR_71_0, shR_71_1, shR_71_2, shR_71_3, shR_71_4, shR_71_5, shR_71_8, shR_71_15, cw, e12, e13, k116, cv, f13, pushR_I, pushR_L, pushR_R, pushR_V, InR_gg, InR_ga, InR_wr, InL_gl, InR_b, b01, b01_0, if_true, if_false, not_true_eq_false, not_false_eq_true, and_true, true_and, and_self, Sum.inl.injEq, one0, Bool.false_eq_true]
        have f10 : gg (ug σ 71 14 0) 71 10 = (tE b N p : Int) := (gg_ug_ne _ _ _ _ _ _ (by omega)).trans r1
        refine CalK_E (m147 (d := d) (TXM_same h (hS 0)) (tok_b h.2.2 hp).2.1 f10) (fun r τ hP => ?_)
        obtain ⟨rfl, hs, hR, h14⟩ := hP
        simp (disch := first | with_reducible assumption | omega | exact ga_in _ _ _ | exact gg_in _ _ _ | (unfold InR; omega) | (unfold InL; omega) | (simp only [shC_71, shC_72, shC_73, shC_74, shC_75, shC_76, shC_77, shC_78, shC_79, shL_72, shL_73, shL_74, shL_75, shL_76, shL_77, shL_78, shL_79]; first | done | omega)) only [q148_60, q148_61, q148_64, q148_66, q148_69, q148_70, pushR_I, pushR_L, pushR_R, pushR_V, InR_gg, InR_ga, InR_wr, InL_gl, InR_b, b01, b01_0, if_true, if_false, not_true_eq_false, not_false_eq_true, and_true, true_and, and_self, Sum.inl.injEq, one0, Bool.false_eq_true]
        refine ⟨SAM_trans (hS 0) hs, fun _ => ⟨rfl, hR, by rw [h14, gg_ug_eq]; rfl⟩, fun q => absurd ⟨cw, ck, cv⟩ q⟩
      · simp (disch := first | with_reducible assumption | omega | exact ga_in _ _ _ | exact gg_in _ _ _ | (unfold InR; omega) | (unfold InL; omega) | (simp only [shC_71, shC_72, shC_73, shC_74, shC_75, shC_76, shC_77, shC_78, shC_79, shL_72, shL_73, shL_74, shL_75, shL_76, shL_77, shL_78, shL_79]; first | done | omega)) only [q148_0, q148_1, q148_4, q148_7, q148_8, q148_11, q148_12, q148_15, q148_16, q148_19, q148_20, q148_21, q148_24, q148_27, q148_28, q148_31, shC_71, shC_72, shC_73, shC_74, shC_75, shC_76, shC_77, shC_78, shC_79, shL_72, shL_73, shL_74, shL_75, shL_76, shL_77, shL_78, shL_79, shR_71_0, shR_71_1, shR_71_2, shR_71_3, shR_71_4, shR_71_5, shR_71_8, shR_71_15, cw, e12, e13, k116, cv, pushR_I, pushR_L, pushR_R, pushR_V, InR_gg, InR_ga, InR_wr, InL_gl, InR_b, b01, b01_0, if_true, if_false, not_true_eq_false, not_false_eq_true, and_true, true_and, and_self, Sum.inl.injEq, one0, Bool.false_eq_true]
        refine Wp_mo bad (fun r τ hP => ⟨hP.1, fun q => absurd q.2.2 cv, fun _ => hP.2⟩)
    · have e12 : ¬ gg σ 71 12 = 2 := by rw [r3]; exact ck
      simp (disch := first | with_reducible assumption | omega | exact ga_in _ _ _ | exact gg_in _ _ _ | (unfold InR; omega) | (unfold InL; omega) | (simp only [shC_71, shC_72, shC_73, shC_74, shC_75, shC_76, shC_77, shC_78, shC_79, shL_72, shL_73, shL_74, shL_75, shL_76, shL_77, shL_78, shL_79]; first | done | omega)) only [q148_0, q148_1, q148_4, q148_7, q148_8, q148_11, q148_12, q148_15, q148_16, q148_19, q148_20, q148_21, q148_24, q148_27, q148_28, q148_31, shC_71, shC_72, shC_73, shC_74, shC_75, shC_76, shC_77, shC_78, shC_79, shL_72, shL_73, shL_74, shL_75, shL_76, shL_77, shL_78, shL_79, shR_71_0, shR_71_1, shR_71_2, shR_71_3, shR_71_4, shR_71_5, shR_71_8, shR_71_15, cw, e12, pushR_I, pushR_L, pushR_R, pushR_V, InR_gg, InR_ga, InR_wr, InL_gl, InR_b, b01, b01_0, if_true, if_false, not_true_eq_false, not_false_eq_true, and_true, true_and, and_self, Sum.inl.injEq, one0, Bool.false_eq_true]
      refine Wp_mo bad (fun r τ hP => ⟨hP.1, fun q => absurd q.2.1 ck, fun _ => hP.2⟩)
  · simp (disch := first | with_reducible assumption | omega | exact ga_in _ _ _ | exact gg_in _ _ _ | (unfold InR; omega) | (unfold InL; omega) | (simp only [shC_71, shC_72, shC_73, shC_74, shC_75, shC_76, shC_77, shC_78, shC_79, shL_72, shL_73, shL_74, shL_75, shL_76, shL_77, shL_78, shL_79]; first | done | omega)) only [q148_0, q148_1, q148_4, q148_7, q148_8, q148_11, q148_12, q148_15, q148_16, q148_19, q148_20, q148_21, q148_24, q148_27, q148_28, q148_31, shC_71, shC_72, shC_73, shC_74, shC_75, shC_76, shC_77, shC_78, shC_79, shL_72, shL_73, shL_74, shL_75, shL_76, shL_77, shL_78, shL_79, shR_71_0, shR_71_1, shR_71_2, shR_71_3, shR_71_4, shR_71_5, shR_71_8, shR_71_15, cw, pushR_I, pushR_L, pushR_R, pushR_V, InR_gg, InR_ga, InR_wr, InL_gl, InR_b, b01, b01_0, if_true, if_false, not_true_eq_false, not_false_eq_true, and_true, true_and, and_self, Sum.inl.injEq, one0, Bool.false_eq_true]
    refine Wp_mo bad (fun r τ hP => ⟨hP.1, fun q => absurd q.1 cw, fun _ => hP.2⟩)
theorem m149 (h : TXM σ b N) {p : Nat} (hp : p ≤ N) (hr : RDM σ b N p) {may : Int} (hm : may = 0 ∨ may = 1) (hw : gg σ 71 14 = 0 ∨ gg σ 71 14 = 1) : CalE (d + 4) 149 [.inr (.inr (.inl 71)), .inl may] σ (wrdR σ b N p may) := by
  have hr' := hr
  obtain ⟨r1, r2, r3, r4, r5⟩ := hr
  have hS : ∀ v, SAM S71 σ (ug σ 71 14 v) := fun v => SAM_ug (SAM_refl _ _) ⟨rfl, by omega, by omega⟩
  have f1 : gg (ug σ 71 14 1) 71 14 = 1 := by rw [gg_ug_eq]; rfl
  have f0 : gg (ug σ 71 14 0) 71 14 = 0 := by rw [gg_ug_eq]; rfl
  refine Cal_ex (ls := [.inr (.inr (.inl 71)), .inl may]) rfl mna_149 mml_149 mhl_149 rfl rfl ?_
  by_cases cw : gg σ 71 14 = 0
  · rcases hm with rfl | rfl
    · simp (disch := first | with_reducible assumption | omega | exact ga_in _ _ _ | exact gg_in _ _ _ | (unfold InR; omega) | (unfold InL; omega) | (simp only [shC_71, shC_72, shC_73, shC_74, shC_75, shC_76, shC_77, shC_78, shC_79, shL_72, shL_73, shL_74, shL_75, shL_76, shL_77, shL_78, shL_79]; first | done | omega)) only [q149_0, q149_1, q149_2, q149_5, q149_8, q149_9, q149_12, q149_13, q149_16, q149_17, q149_20, q149_21, q149_24, q149_27, q149_28, q149_31, shC_71, shC_72, shC_73, shC_74, shC_75, shC_76, shC_77, shC_78, shC_79, shL_72, shL_73, shL_74, shL_75, shL_76, shL_77, shL_78, shL_79, shR_71_0, shR_71_1, shR_71_2, shR_71_3, shR_71_4, shR_71_5, shR_71_8, shR_71_15, cw, f1, pushR_I, pushR_L, pushR_R, pushR_V, InR_gg, InR_ga, InR_wr, InL_gl, InR_b, b01, b01_0, if_true, if_false, not_true_eq_false, not_false_eq_true, and_true, true_and, and_self, Sum.inl.injEq, one0, Bool.false_eq_true]
      exact ⟨rfl, hS 1, fun q => absurd q.2 (by omega), fun _ => ⟨RDM_14 hr', f1⟩⟩
    · have f10 : gg (ug σ 71 14 0) 71 10 = (tE b N p : Int) := (gg_ug_ne _ _ _ _ _ _ (by omega)).trans r1
      simp (disch := first | with_reducible assumption | omega | exact ga_in _ _ _ | exact gg_in _ _ _ | (unfold InR; omega) | (unfold InL; omega) | (simp only [shC_71, shC_72, shC_73, shC_74, shC_75, shC_76, shC_77, shC_78, shC_79, shL_72, shL_73, shL_74, shL_75, shL_76, shL_77, shL_78, shL_79]; first | done | omega)) only [q149_0, q149_1, q149_2, q149_5, q149_8, q149_9, q149_12, q149_13, q149_16, q149_17, q149_20, q149_21, q149_24, q149_27, q149_28, q149_31, shC_71, shC_72, shC_73, shC_74, shC_75, shC_76, shC_77, shC_78, shC_79, shL_72, shL_73, shL_74, shL_75, shL_76, shL_77, shL_78, shL_79, shR_71_0, shR_71_1, shR_71_2, shR_71_3, shR_71_4, shR_71_5, shR_71_8, shR_71_15, cw, f0, pushR_I, pushR_L, pushR_R, pushR_V, InR_gg, InR_ga, InR_wr, InL_gl, InR_b, b01, b01_0, if_true, if_false, not_true_eq_false, not_false_eq_true, and_true, true_and, and_self, Sum.inl.injEq, one0, Bool.false_eq_true]
      refine CalK_E (m147 (d := d) (TXM_same h (hS 0)) (tok_b h.2.2 hp).2.1 f10) (fun r τ hP => ?_)
      obtain ⟨rfl, hs, hR, h14⟩ := hP
      simp (disch := first | with_reducible assumption | omega | exact ga_in _ _ _ | exact gg_in _ _ _ | (unfold InR; omega) | (unfold InL; omega) | (simp only [shC_71, shC_72, shC_73, shC_74, shC_75, shC_76, shC_77, shC_78, shC_79, shL_72, shL_73, shL_74, shL_75, shL_76, shL_77, shL_78, shL_79]; first | done | omega)) only [q149_0, q149_1, q149_2, q149_5, q149_8, q149_9, q149_12, q149_13, q149_16, q149_17, q149_20, q149_21, q149_24, q149_27, q149_28, q149_31, pushR_I, pushR_L, pushR_R, pushR_V, InR_gg, InR_ga, InR_wr, InL_gl, InR_b, b01, b01_0, if_true, if_false, not_true_eq_false, not_false_eq_true, and_true, true_and, and_self, Sum.inl.injEq, one0, Bool.false_eq_true]
      refine ⟨rfl, SAM_trans (hS 0) hs, fun _ => ⟨hR, by rw [h14, f0]⟩, fun q => absurd ⟨cw, rfl⟩ q⟩
  · simp (disch := first | with_reducible assumption | omega | exact ga_in _ _ _ | exact gg_in _ _ _ | (unfold InR; omega) | (unfold InL; omega) | (simp only [shC_71, shC_72, shC_73, shC_74, shC_75, shC_76, shC_77, shC_78, shC_79, shL_72, shL_73, shL_74, shL_75, shL_76, shL_77, shL_78, shL_79]; first | done | omega)) only [q149_0, q149_1, q149_2, q149_5, q149_8, q149_9, q149_12, q149_13, q149_16, q149_17, q149_20, q149_21, q149_24, q149_27, q149_28, q149_31, shC_71, shC_72, shC_73, shC_74, shC_75, shC_76, shC_77, shC_78, shC_79, shL_72, shL_73, shL_74, shL_75, shL_76, shL_77, shL_78, shL_79, shR_71_0, shR_71_1, shR_71_2, shR_71_3, shR_71_4, shR_71_5, shR_71_8, shR_71_15, cw, f1, pushR_I, pushR_L, pushR_R, pushR_V, InR_gg, InR_ga, InR_wr, InL_gl, InR_b, b01, b01_0, if_true, if_false, not_true_eq_false, not_false_eq_true, and_true, true_and, and_self, Sum.inl.injEq, one0, Bool.false_eq_true]
    exact ⟨rfl, hS 1, fun q => absurd q.1 cw, fun _ => ⟨RDM_14 hr', f1⟩⟩
def ITM (σ : SG) (b : Nat → Int) (N : Nat) (R : IT) (r : AV) (τ : SG) : Prop := r = aU ∧ FRMM σ τ ∧ ((R.1 = true → RDM τ b N (tE b N R.2.1) ∧ gg τ 71 14 = 0 ∧ RW τ 73 221 R.2.2) ∧ (R.1 = false → RDM τ b N R.2.1 ∧ gg τ 71 14 = 1))
/-- what goes wrong stays so -/
theorem num_w (h : TXM σ b N) {p : Nat} (hp : p ≤ N) (hr : RDM σ b N p) {lo hi : Int} (hlo : InR lo) (hhi : InR hi) (hw : gg σ 71 14 = 1) : CalE (d + 4) 148 [.inr (.inr (.inl 71)), .inl lo, .inl hi] σ (fun r τ => r = .inl 0 ∧ SAM S71 σ τ ∧ RDM τ b N p ∧ gg τ 71 14 = 1) := by
  obtain ⟨r, τ, hc, hs, -, h2⟩ := m148 (d := d) h hp hr hlo hhi (Or.inr hw)
  obtain ⟨q1, q2, q3⟩ := h2 (fun q => by have := q.1; omega)
  exact ⟨r, τ, hc, q1, hs, q2, q3⟩
theorem num_0 (h : TXM σ b N) {p : Nat} (hp : p ≤ N) (hr : RDM σ b N p) {lo hi : Int} (hlo : InR lo) (hhi : InR hi) (hw : gg σ 71 14 = 0) : CalE (d + 4) 148 [.inr (.inr (.inl 71)), .inl lo, .inl hi] σ (fun r τ => SAM S71 σ τ ∧ ((numC b N p lo hi → r = .inl (tV b N p) ∧ RDM τ b N (tE b N p) ∧ gg τ 71 14 = 0) ∧ (¬ numC b N p lo hi → r = .inl 0 ∧ RDM τ b N p ∧ gg τ 71 14 = 1))) := by
  obtain ⟨r, τ, hc, hs, h1, h2⟩ := m148 (d := d) h hp hr hlo hhi (Or.inl hw)
  exact ⟨r, τ, hc, hs, fun q => h1 ⟨hw, q⟩, fun q => h2 (fun z => q z.2)⟩
theorem wrd_0 (h : TXM σ b N) {p : Nat} (hp : p ≤ N) (hr : RDM σ b N p) {may : Int} (hm : may = 0 ∨ may = 1) (hw : gg σ 71 14 = 0) : CalE (d + 4) 149 [.inr (.inr (.inl 71)), .inl may] σ (fun r τ => r = aU ∧ SAM S71 σ τ ∧ ((may = 1 → RDM τ b N (tE b N p) ∧ gg τ 71 14 = 0) ∧ (may = 0 → RDM τ b N p ∧ gg τ 71 14 = 1))) := by
  obtain ⟨r, τ, hc, hr2, hs, h1, h2⟩ := m149 (d := d) h hp hr hm (Or.inl hw)
  exact ⟨r, τ, hc, hr2, hs, fun q => h1 ⟨hw, q⟩, fun q => h2 (fun z => by have := z.2; omega)⟩
theorem wrd_w (h : TXM σ b N) {p : Nat} (hp : p ≤ N) (hr : RDM σ b N p) {may : Int} (hm : may = 0 ∨ may = 1) (hw : gg σ 71 14 = 1) : CalE (d + 4) 149 [.inr (.inr (.inl 71)), .inl may] σ (fun r τ => r = aU ∧ SAM S71 σ τ ∧ RDM τ b N p ∧ gg τ 71 14 = 1) := by
  obtain ⟨r, τ, hc, hr2, hs, h1, h2⟩ := m149 (d := d) h hp hr hm (Or.inr hw)
  obtain ⟨q1, q2⟩ := h2 (fun z => by have := z.1; omega)
  exact ⟨r, τ, hc, hr2, hs, q1, q2⟩
theorem i05 : InR 0 ∧ InR 5 ∧ InR 1 ∧ InR 9 ∧ InR 99 := ⟨⟨by omega, by omega⟩, ⟨by omega, by omega⟩, ⟨by omega, by omega⟩, ⟨by omega, by omega⟩, ⟨by omega, by omega⟩⟩
theorem m150 (h : TXM σ b N) {p : Nat} (hp : p ≤ N) (hr : RDM σ b N p) (hw : gg σ 71 14 = 0) {g : Int → Int} (hR : RW σ 73 221 g) (hg : ROK g) : CalE (d + 8) 150 [.inr (.inr (.inl 71))] σ (ITM σ b N (itLie b N p g)) := by
  have c221 : ((221 : Nat) : Int) = 221 := rfl
  have e13 : ga σ 73 13 = g 13 := hR 13 (by omega) (by omega)
  have g13 := hg.1.1
  have hp1 := (tok_b h.2.2 hp).2.1
  have hp2 := (tok_b h.2.2 hp1).2.1
  obtain ⟨i0, i5, i1, i9, i99⟩ := i05
  -- wrong from the first number on
  have wr2 : ∀ (τ : SG) (q : Nat) (v1 : Int) (v2 : AV) (R : IT), FRMM σ τ → TXM τ b N → q ≤ N → RDM τ b N q → gg τ 71 14 = 1 → R.1 = false → R.2.1 = q → Wp none (d + 7) 150 28 [.inr (.inr (.inl 71)), .inl v1, v2] [] τ (ITM σ b N R) := fun τ q v1 v2 R hF hX hq hrd hw1 hR1 hR2 => by
    simp (disch := first | with_reducible assumption | omega | exact ga_in _ _ _ | exact gg_in _ _ _ | (unfold InR; omega) | (unfold InL; omega) | (simp only [shC_71, shC_72, shC_73, shC_74, shC_75, shC_76, shC_77, shC_78, shC_79, shL_72, shL_73, shL_74, shL_75, shL_76, shL_77, shL_78, shL_79]; first | done | omega)) only [q150_28, q150_29, q150_30, q150_32, pushR_I, pushR_L, pushR_R, pushR_V, InR_gg, InR_ga, InR_wr, InL_gl, InR_b, b01, b01_0, if_true, if_false, not_true_eq_false, not_false_eq_true, and_true, true_and, and_self, Sum.inl.injEq, one0, Bool.false_eq_true]
    refine CalK_E (num_w (d := d + 3) hX hq hrd i1 i9 hw1) (fun r υ hP => ?_)
    obtain ⟨rfl, hs, hrd2, hw2⟩ := hP
    simp (disch := first | with_reducible assumption | omega | exact ga_in _ _ _ | exact gg_in _ _ _ | (unfold InR; omega) | (unfold InL; omega) | (simp only [shC_71, shC_72, shC_73, shC_74, shC_75, shC_76, shC_77, shC_78, shC_79, shL_72, shL_73, shL_74, shL_75, shL_76, shL_77, shL_78, shL_79]; first | done | omega)) only [q150_35, q150_36, q150_37, q150_40, q150_43, q150_44, q150_47, q150_48, q150_49, q150_52, q150_53, shC_71, shC_72, shC_73, shC_74, shC_75, shC_76, shC_77, shC_78, shC_79, shL_72, shL_73, shL_74, shL_75, shL_76, shL_77, shL_78, shL_79, shR_71_0, shR_71_1, shR_71_2, shR_71_3, shR_71_4, shR_71_5, shR_71_8, shR_71_15, hw2, pushR_I, pushR_L, pushR_R, pushR_V, InR_gg, InR_ga, InR_wr, InL_gl, InR_b, b01, b01_0, if_true, if_false, not_true_eq_false, not_false_eq_true, and_true, true_and, and_self, Sum.inl.injEq, one0, Bool.false_eq_true]
    refine ⟨rfl, FRMM_trans hF (FRMM_71 hs), fun z => absurd (hR1.symm.trans z) (by decide), fun _ => ⟨?_, hw2⟩⟩
    rw [hR2]
    exact hrd2
  refine Cal_ex (ls := [.inr (.inr (.inl 71)), aU, aU]) rfl mna_150 mml_150 mhl_150 rfl rfl ?_
  unfold itLie
  by_cases c7 : 7 ≤ g 13
  · rw [if_pos c7]
    simp (disch := first | with_reducible assumption | omega | exact ga_in _ _ _ | exact gg_in _ _ _ | (unfold InR; omega) | (unfold InL; omega) | (simp only [shC_71, shC_72, shC_73, shC_74, shC_75, shC_76, shC_77, shC_78, shC_79, shL_72, shL_73, shL_74, shL_75, shL_76, shL_77, shL_78, shL_79]; first | done | omega)) only [q150_0, q150_1, q150_2, q150_5, q150_7, q150_8, q150_10, q150_13, q150_14, q150_17, q150_18, shC_71, shC_72, shC_73, shC_74, shC_75, shC_76, shC_77, shC_78, shC_79, shL_72, shL_73, shL_74, shL_75, shL_76, shL_77, shL_78, shL_79, shR_71_0, shR_71_1, shR_71_2, shR_71_3, shR_71_4, shR_71_5, shR_71_8, shR_71_15, c221, e13, c7, pushR_I, pushR_L, pushR_R, pushR_V, InR_gg, InR_ga, InR_wr, InL_gl, InR_b, b01, b01_0, if_true, if_false, not_true_eq_false, not_false_eq_true, and_true, true_and, and_self, Sum.inl.injEq, one0, Bool.false_eq_true]
    refine CalK_E (wrd_0 (d := d + 3) h hp hr (Or.inl rfl) hw) (fun r τ hP => ?_)
    obtain ⟨rfl, hs, -, h2⟩ := hP
    obtain ⟨hrd, hw1⟩ := h2 rfl
    have hX := TXM_same h hs
    simp (disch := first | with_reducible assumption | omega | exact ga_in _ _ _ | exact gg_in _ _ _ | (unfold InR; omega) | (unfold InL; omega) | (simp only [shC_71, shC_72, shC_73, shC_74, shC_75, shC_76, shC_77, shC_78, shC_79, shL_72, shL_73, shL_74, shL_75, shL_76, shL_77, shL_78, shL_79]; first | done | omega)) only [q150_21, q150_22, q150_23, q150_24, pushR_I, pushR_L, pushR_R, pushR_V, InR_gg, InR_ga, InR_wr, InL_gl, InR_b, b01, b01_0, if_true, if_false, not_true_eq_false, not_false_eq_true, and_true, true_and, and_self, Sum.inl.injEq, one0, Bool.false_eq_true]
    refine CalK_E (num_w (d := d + 3) hX hp hrd i0 i5 hw1) (fun r υ hP => ?_)
    obtain ⟨rfl, hs2, hrd2, hw2⟩ := hP
    simp (disch := first | with_reducible assumption | omega | exact ga_in _ _ _ | exact gg_in _ _ _ | (unfold InR; omega) | (unfold InL; omega) | (simp only [shC_71, shC_72, shC_73, shC_74, shC_75, shC_76, shC_77, shC_78, shC_79, shL_72, shL_73, shL_74, shL_75, shL_76, shL_77, shL_78, shL_79]; first | done | omega)) only [q150_27, pushR_I, pushR_L, pushR_R, pushR_V, InR_gg, InR_ga, InR_wr, InL_gl, InR_b, b01, b01_0, if_true, if_false, not_true_eq_false, not_false_eq_true, and_true, true_and, and_self, Sum.inl.injEq, one0, Bool.false_eq_true]
    exact wr2 υ p 0 _ _ (FRMM_71 (SAM_trans hs hs2)) (TXM_same hX hs2) hp hrd2 hw2 rfl rfl
  · rw [if_neg c7]
    simp (disch := first | with_reducible assumption | omega | exact ga_in _ _ _ | exact gg_in _ _ _ | (unfold InR; omega) | (unfold InL; omega) | (simp only [shC_71, shC_72, shC_73, shC_74, shC_75, shC_76, shC_77, shC_78, shC_79, shL_72, shL_73, shL_74, shL_75, shL_76, shL_77, shL_78, shL_79]; first | done | omega)) only [q150_0, q150_1, q150_2, q150_5, q150_7, q150_8, q150_10, q150_13, q150_14, q150_17, q150_18, shC_71, shC_72, shC_73, shC_74, shC_75, shC_76, shC_77, shC_78, shC_79, shL_72, shL_73, shL_74, shL_75, shL_76, shL_77, shL_78, shL_79, shR_71_0, shR_71_1, shR_71_2, shR_71_3, shR_71_4, shR_71_5, shR_71_8, shR_71_15, c221, e13, c7, pushR_I, pushR_L, pushR_R, pushR_V, InR_gg, InR_ga, InR_wr, InL_gl, InR_b, b01, b01_0, if_true, if_false, not_true_eq_false, not_false_eq_true, and_true, true_and, and_self, Sum.inl.injEq, one0, Bool.false_eq_true]
    refine CalK_E (wrd_0 (d := d + 3) h hp hr (Or.inr rfl) hw) (fun r τ hP => ?_)
    obtain ⟨rfl, hs, h1, -⟩ := hP
    obtain ⟨hrd, hw1⟩ := h1 rfl
    have hX := TXM_same h hs
    simp (disch := first | with_reducible assumption | omega | exact ga_in _ _ _ | exact gg_in _ _ _ | (unfold InR; omega) | (unfold InL; omega) | (simp only [shC_71, shC_72, shC_73, shC_74, shC_75, shC_76, shC_77, shC_78, shC_79, shL_72, shL_73, shL_74, shL_75, shL_76, shL_77, shL_78, shL_79]; first | done | omega)) only [q150_21, q150_22, q150_23, q150_24, pushR_I, pushR_L, pushR_R, pushR_V, InR_gg, InR_ga, InR_wr, InL_gl, InR_b, b01, b01_0, if_true, if_false, not_true_eq_false, not_false_eq_true, and_true, true_and, and_self, Sum.inl.injEq, one0, Bool.false_eq_true]
    refine CalK_E (num_0 (d := d + 3) hX hp1 hrd i0 i5 hw1) (fun r υ hP => ?_)
    obtain ⟨hs2, h1, h2⟩ := hP
    have hX2 := TXM_same hX hs2
    by_cases c1 : tK b N (tE b N p) = 2 ∧ 0 ≤ tV b N (tE b N p) ∧ tV b N (tE b N p) ≤ 5
    · rw [if_pos c1]
      obtain ⟨rfl, hrd2, hw2⟩ := h1 c1
      simp (disch := first | with_reducible assumption | omega | exact ga_in _ _ _ | exact gg_in _ _ _ | (unfold InR; omega) | (unfold InL; omega) | (simp only [shC_71, shC_72, shC_73, shC_74, shC_75, shC_76, shC_77, shC_78, shC_79, shL_72, shL_73, shL_74, shL_75, shL_76, shL_77, shL_78, shL_79]; first | done | omega)) only [q150_27, q150_28, q150_29, q150_30, q150_32, pushR_I, pushR_L, pushR_R, pushR_V, InR_gg, InR_ga, InR_wr, InL_gl, InR_b, b01, b01_0, if_true, if_false, not_true_eq_false, not_false_eq_true, and_true, true_and, and_self, Sum.inl.injEq, one0, Bool.false_eq_true]
      refine CalK_E (num_0 (d := d + 3) hX2 hp2 hrd2 i1 i9 hw2) (fun r χ hP => ?_)
      obtain ⟨hs3, h1, h2⟩ := hP
      have hRc : RW χ 73 221 g := RW_71 (RW_71 (RW_71 hR hs) hs2) hs3
      have f13 : ga χ 73 13 = g 13 := hRc 13 (by omega) (by omega)
      have hF : FRMM σ χ := FRMM_71 (SAM_trans (SAM_trans hs hs2) hs3)
      by_cases c2 : tK b N (tE b N (tE b N p)) = 2 ∧ 1 ≤ tV b N (tE b N (tE b N p)) ∧ tV b N (tE b N (tE b N p)) ≤ 9
      · rw [if_pos c2]
        obtain ⟨rfl, hrd3, hw3⟩ := h1 c2
        simp (disch := first | with_reducible assumption | omega | exact ga_in _ _ _ | exact gg_in _ _ _ | (unfold InR; omega) | (unfold InL; omega) | (simp only [shC_71, shC_72, shC_73, shC_74, shC_75, shC_76, shC_77, shC_78, shC_79, shL_72, shL_73, shL_74, shL_75, shL_76, shL_77, shL_78, shL_79]; first | done | omega)) only [q150_35, q150_36, q150_37, q150_40, q150_43, q150_44, q150_47, q150_48, q150_49, q150_52, q150_53, shC_71, shC_72, shC_73, shC_74, shC_75, shC_76, shC_77, shC_78, shC_79, shL_72, shL_73, shL_74, shL_75, shL_76, shL_77, shL_78, shL_79, shR_71_0, shR_71_1, shR_71_2, shR_71_3, shR_71_4, shR_71_5, shR_71_8, shR_71_15, hw3, k139 M73, pushR_I, pushR_L, pushR_R, pushR_V, InR_gg, InR_ga, InR_wr, InL_gl, InR_b, b01, b01_0, if_true, if_false, not_true_eq_false, not_false_eq_true, and_true, true_and, and_self, Sum.inl.injEq, one0, Bool.false_eq_true]
        have ho : ONE 73 χ (ua (ua (ua (ua χ 73 (14 + ga χ 73 13) (tV b N (tE b N p))) 73 (21 + ga χ 73 13) (tV b N (tE b N (tE b N p)))) 73 (6 + ga χ 73 13) 0) 73 13 (ga χ 73 13 + 1)) := ONE_ua (ONE_ua (ONE_ua (ONE_ua (ONE_refl 73 χ))))
        refine ⟨rfl, FRMM_trans hF (FRMM_73 ho), fun _ => ⟨RDM_73 hrd3 ho, (ho.1 71 14 (by omega)).trans hw3, RW_lie hRc hg.1 (by omega) ⟨by omega, by omega⟩ ⟨by omega, by omega⟩⟩, fun z => absurd z (by simp)⟩
      · rw [if_neg c2]
        obtain ⟨rfl, hrd3, hw3⟩ := h2 c2
        simp (disch := first | with_reducible assumption | omega | exact ga_in _ _ _ | exact gg_in _ _ _ | (unfold InR; omega) | (unfold InL; omega) | (simp only [shC_71, shC_72, shC_73, shC_74, shC_75, shC_76, shC_77, shC_78, shC_79, shL_72, shL_73, shL_74, shL_75, shL_76, shL_77, shL_78, shL_79]; first | done | omega)) only [q150_35, q150_36, q150_37, q150_40, q150_43, q150_44, q150_47, q150_48, q150_49, q150_52, q150_53, shC_71, shC_72, shC_73, shC_74, shC_75, shC_76, shC_77, shC_78, shC_79, shL_72, shL_73, shL_74, shL_75, shL_76, shL_77, shL_78, shL_79, shR_71_0, shR_71_1, shR_71_2, shR_71_3, shR_71_4, shR_71_5, shR_71_8, shR_71_15, hw3, pushR_I, pushR_L, pushR_R, pushR_V, InR_gg, InR_ga, InR_wr, InL_gl, InR_b, b01, b01_0, if_true, if_false, not_true_eq_false, not_false_eq_true, and_true, true_and, and_self, Sum.inl.injEq, one0, Bool.false_eq_true]
        exact ⟨rfl, hF, fun z => absurd z (by simp), fun _ => ⟨hrd3, hw3⟩⟩
    · rw [if_neg c1]
      obtain ⟨rfl, hrd2, hw2⟩ := h2 c1
      simp (disch := first | with_reducible assumption | omega | exact ga_in _ _ _ | exact gg_in _ _ _ | (unfold InR; omega) | (unfold InL; omega) | (simp only [shC_71, shC_72, shC_73, shC_74, shC_75, shC_76, shC_77, shC_78, shC_79, shL_72, shL_73, shL_74, shL_75, shL_76, shL_77, shL_78, shL_79]; first | done | omega)) only [q150_27, pushR_I, pushR_L, pushR_R, pushR_V, InR_gg, InR_ga, InR_wr, InL_gl, InR_b, b01, b01_0, if_true, if_false, not_true_eq_false, not_false_eq_true, and_true, true_and, and_self, Sum.inl.injEq, one0, Bool.false_eq_true]
      exact wr2 υ (tE b N p) 0 _ _ (FRMM_71 (SAM_trans hs hs2)) hX2 hp1 hrd2 hw2 rfl rfl
theorem m151 (h : TXM σ b N) {p : Nat} (hp : p ≤ N) (hr : RDM σ b N p) (hw : gg σ 71 14 = 0) {g : Int → Int} (hR : RW σ 73 221 g) (hg : ROK g) : CalE (d + 8) 151 [.inr (.inr (.inl 71))] σ (ITM σ b N (itOven b N p g)) := by
  have c221 : ((221 : Nat) : Int) = 221 := rfl
  have e28 : ga σ 73 28 = g 28 := hR 28 (by omega) (by omega)
  have g28 := hg.1.2.1
  have hp1 := (tok_b h.2.2 hp).2.1
  obtain ⟨i0, i5, i1, i9, i99⟩ := i05
  refine Cal_ex (ls := [.inr (.inr (.inl 71)), aU]) rfl mna_151 mml_151 mhl_151 rfl rfl ?_
  unfold itOven
  by_cases c7 : 5 ≤ g 28
  · rw [if_pos c7]
    simp (disch := first | with_reducible assumption | omega | exact ga_in _ _ _ | exact gg_in _ _ _ | (unfold InR; omega) | (unfold InL; omega) | (simp only [shC_71, shC_72, shC_73, shC_74, shC_75, shC_76, shC_77, shC_78, shC_79, shL_72, shL_73, shL_74, shL_75, shL_76, shL_77, shL_78, shL_79]; first | done | omega)) only [q151_0, q151_1, q151_2, q151_5, q151_7, q151_8, q151_9, q151_12, q151_13, q151_16, q151_17, shC_71, shC_72, shC_73, shC_74, shC_75, shC_76, shC_77, shC_78, shC_79, shL_72, shL_73, shL_74, shL_75, shL_76, shL_77, shL_78, shL_79, shR_71_0, shR_71_1, shR_71_2, shR_71_3, shR_71_4, shR_71_5, shR_71_8, shR_71_15, c221, e28, c7, pushR_I, pushR_L, pushR_R, pushR_V, InR_gg, InR_ga, InR_wr, InL_gl, InR_b, b01, b01_0, if_true, if_false, not_true_eq_false, not_false_eq_true, and_true, true_and, and_self, Sum.inl.injEq, one0, Bool.false_eq_true]
    refine CalK_E (wrd_0 (d := d + 3) h hp hr (Or.inl rfl) hw) (fun r τ hP => ?_)
    obtain ⟨rfl, hs, -, h2⟩ := hP
    obtain ⟨hrd, hw1⟩ := h2 rfl
    have hX := TXM_same h hs
    simp (disch := first | with_reducible assumption | omega | exact ga_in _ _ _ | exact gg_in _ _ _ | (unfold InR; omega) | (unfold InL; omega) | (simp only [shC_71, shC_72, shC_73, shC_74, shC_75, shC_76, shC_77, shC_78, shC_79, shL_72, shL_73, shL_74, shL_75, shL_76, shL_77, shL_78, shL_79]; first | done | omega)) only [q151_20, q151_21, q151_22, q151_23, pushR_I, pushR_L, pushR_R, pushR_V, InR_gg, InR_ga, InR_wr, InL_gl, InR_b, b01, b01_0, if_true, if_false, not_true_eq_false, not_false_eq_true, and_true, true_and, and_self, Sum.inl.injEq, one0, Bool.false_eq_true]
    refine CalK_E (num_w (d := d + 3) hX hp hrd i0 i5 hw1) (fun r υ hP => ?_)
    obtain ⟨rfl, hs2, hrd2, hw2⟩ := hP
    simp (disch := first | with_reducible assumption | omega | exact ga_in _ _ _ | exact gg_in _ _ _ | (unfold InR; omega) | (unfold InL; omega) | (simp only [shC_71, shC_72, shC_73, shC_74, shC_75, shC_76, shC_77, shC_78, shC_79, shL_72, shL_73, shL_74, shL_75, shL_76, shL_77, shL_78, shL_79]; first | done | omega)) only [q151_26, q151_27, q151_28, q151_31, q151_34, q151_35, q151_38, q151_39, q151_42, q151_43, shC_71, shC_72, shC_73, shC_74, shC_75, shC_76, shC_77, shC_78, shC_79, shL_72, shL_73, shL_74, shL_75, shL_76, shL_77, shL_78, shL_79, shR_71_0, shR_71_1, shR_71_2, shR_71_3, shR_71_4, shR_71_5, shR_71_8, shR_71_15, hw2, pushR_I, pushR_L, pushR_R, pushR_V, InR_gg, InR_ga, InR_wr, InL_gl, InR_b, b01, b01_0, if_true, if_false, not_true_eq_false, not_false_eq_true, and_true, true_and, and_self, Sum.inl.injEq, one0, Bool.false_eq_true]
    exact ⟨rfl, FRMM_71 (SAM_trans hs hs2), fun z => absurd z (by simp), fun _ => ⟨hrd2, hw2⟩⟩
  · rw [if_neg c7]
    simp (disch := first | with_reducible assumption | omega | exact ga_in _ _ _ | exact gg_in _ _ _ | (unfold InR; omega) | (unfold InL; omega) | (simp only [shC_71, shC_72, shC_73, shC_74, shC_75, shC_76, shC_77, shC_78, shC_79, shL_72, shL_73, shL_74, shL_75, shL_76, shL_77, shL_78, shL_79]; first | done | omega)) only [q151_0, q151_1, q151_2, q151_5, q151_7, q151_8, q151_9, q151_12, q151_13, q151_16, q151_17, shC_71, shC_72, shC_73, shC_74, shC_75, shC_76, shC_77, shC_78, shC_79, shL_72, shL_73, shL_74, shL_75, shL_76, shL_77, shL_78, shL_79, shR_71_0, shR_71_1, shR_71_2, shR_71_3, shR_71_4, shR_71_5, shR_71_8, shR_71_15, c221, e28, c7, pushR_I, pushR_L, pushR_R, pushR_V, InR_gg, InR_ga, InR_wr, InL_gl, InR_b, b01, b01_0, if_true, if_false, not_true_eq_false, not_false_eq_true, and_true, true_and, and_self, Sum.inl.injEq, one0, Bool.false_eq_true]
    refine CalK_E (wrd_0 (d := d + 3) h hp hr (Or.inr rfl) hw) (fun r τ hP => ?_)
    obtain ⟨rfl, hs, h1, -⟩ := hP
    obtain ⟨hrd, hw1⟩ := h1 rfl
    have hX := TXM_same h hs
    simp (disch := first | with_reducible assumption | omega | exact ga_in _ _ _ | exact gg_in _ _ _ | (unfold InR; omega) | (unfold InL; omega) | (simp only [shC_71, shC_72, shC_73, shC_74, shC_75, shC_76, shC_77, shC_78, shC_79, shL_72, shL_73, shL_74, shL_75, shL_76, shL_77, shL_78, shL_79]; first | done | omega)) only [q151_20, q151_21, q151_22, q151_23, pushR_I, pushR_L, pushR_R, pushR_V, InR_gg, InR_ga, InR_wr, InL_gl, InR_b, b01, b01_0, if_true, if_false, not_true_eq_false, not_false_eq_true, and_true, true_and, and_self, Sum.inl.injEq, one0, Bool.false_eq_true]
    refine CalK_E (num_0 (d := d + 3) hX hp1 hrd i0 i5 hw1) (fun r υ hP => ?_)
    obtain ⟨hs2, h1, h2⟩ := hP
    have hRc : RW υ 73 221 g := RW_71 (RW_71 hR hs) hs2
    have f28 : ga υ 73 28 = g 28 := hRc 28 (by omega) (by omega)
    have hF : FRMM σ υ := FRMM_71 (SAM_trans hs hs2)
    by_cases c1 : tK b N (tE b N p) = 2 ∧ 0 ≤ tV b N (tE b N p) ∧ tV b N (tE b N p) ≤ 5
    · rw [if_pos c1]
      obtain ⟨rfl, hrd3, hw3⟩ := h1 c1
      simp (disch := first | with_reducible assumption | omega | exact ga_in _ _ _ | exact gg_in _ _ _ | (unfold InR; omega) | (unfold InL; omega) | (simp only [shC_71, shC_72, shC_73, shC_74, shC_75, shC_76, shC_77, shC_78, shC_79, shL_72, shL_73, shL_74, shL_75, shL_76, shL_77, shL_78, shL_79]; first | done | omega)) only [q151_26, q151_27, q151_28, q151_31, q151_34, q151_35, q151_38, q151_39, q151_42, q151_43, shC_71, shC_72, shC_73, shC_74, shC_75, shC_76, shC_77, shC_78, shC_79, shL_72, shL_73, shL_74, shL_75, shL_76, shL_77, shL_78, shL_79, shR_71_0, shR_71_1, shR_71_2, shR_71_3, shR_71_4, shR_71_5, shR_71_8, shR_71_15, hw3, k140 M73, pushR_I, pushR_L, pushR_R, pushR_V, InR_gg, InR_ga, InR_wr, InL_gl, InR_b, b01, b01_0, if_true, if_false, not_true_eq_false, not_false_eq_true, and_true, true_and, and_self, Sum.inl.injEq, one0, Bool.false_eq_true]
      have ho : ONE 73 υ (ua (ua (ua υ 73 (29 + ga υ 73 28) (tV b N (tE b N p))) 73 (1 + ga υ 73 28) 0) 73 28 (ga υ 73 28 + 1)) := ONE_ua (ONE_ua (ONE_ua (ONE_refl 73 υ)))
      refine ⟨rfl, FRMM_trans hF (FRMM_73 ho), fun _ => ⟨RDM_73 hrd3 ho, (ho.1 71 14 (by omega)).trans hw3, RW_oven hRc hg.1 (by omega) ⟨by omega, by omega⟩⟩, fun z => absurd z (by simp)⟩
    · rw [if_neg c1]
      obtain ⟨rfl, hrd3, hw3⟩ := h2 c1
      simp (disch := first | with_reducible assumption | omega | exact ga_in _ _ _ | exact gg_in _ _ _ | (unfold InR; omega) | (unfold InL; omega) | (simp only [shC_71, shC_72, shC_73, shC_74, shC_75, shC_76, shC_77, shC_78, shC_79, shL_72, shL_73, shL_74, shL_75, shL_76, shL_77, shL_78, shL_79]; first | done | omega)) only [q151_26, q151_27, q151_28, q151_31, q151_34, q151_35, q151_38, q151_39, q151_42, q151_43, shC_71, shC_72, shC_73, shC_74, shC_75, shC_76, shC_77, shC_78, shC_79, shL_72, shL_73, shL_74, shL_75, shL_76, shL_77, shL_78, shL_79, shR_71_0, shR_71_1, shR_71_2, shR_71_3, shR_71_4, shR_71_5, shR_71_8, shR_71_15, hw3, pushR_I, pushR_L, pushR_R, pushR_V, InR_gg, InR_ga, InR_wr, InL_gl, InR_b, b01, b01_0, if_true, if_false, not_true_eq_false, not_false_eq_true, and_true, true_and, and_self, Sum.inl.injEq, one0, Bool.false_eq_true]
      exact ⟨rfl, hF, fun z => absurd z (by simp), fun _ => ⟨hrd3, hw3⟩⟩
theorem m152 (h : TXM σ b N) {p : Nat} (hp : p ≤ N) (hr : RDM σ b N p) (hw : gg σ 71 14 = 0) {g : Int → Int} (hR : RW σ 73 221 g) (hg : ROK g) : CalE (d + 8) 152 [.inr (.inr (.inl 71))] σ (ITM σ b N (itSay b N p g)) := by
  have c221 : ((221 : Nat) : Int) = 221 := rfl
  have g13 := hg.1.1
  have g28 := hg.1.2.1
  have hp1 := (tok_b h.2.2 hp).2.1
  have hp2 := (tok_b h.2.2 hp1).2.1
  obtain ⟨i0, i5, i1, i9, i99⟩ := i05
  refine Cal_ex (ls := [.inr (.inr (.inl 71)), aU, aU]) rfl mna_152 mml_152 mhl_152 rfl rfl ?_
  unfold itSay
  simp (disch := first | with_reducible assumption | omega | exact ga_in _ _ _ | exact gg_in _ _ _ | (unfold InR; omega) | (unfold InL; omega) | (simp only [shC_71, shC_72, shC_73, shC_74, shC_75, shC_76, shC_77, shC_78, shC_79, shL_72, shL_73, shL_74, shL_75, shL_76, shL_77, shL_78, shL_79]; first | done | omega)) only [q152_0, q152_1, q152_2, shC_71, shC_72, shC_73, shC_74, shC_75, shC_76, shC_77, shC_78, shC_79, shL_72, shL_73, shL_74, shL_75, shL_76, shL_77, shL_78, shL_79, shR_71_0, shR_71_1, shR_71_2, shR_71_3, shR_71_4, shR_71_5, shR_71_8, shR_71_15, pushR_I, pushR_L, pushR_R, pushR_V, InR_gg, InR_ga, InR_wr, InL_gl, InR_b, b01, b01_0, if_true, if_false, not_true_eq_false, not_false_eq_true, and_true, true_and, and_self, Sum.inl.injEq, one0, Bool.false_eq_true]
  refine CalK_E (wrd_0 (d := d + 3) h hp hr (Or.inr rfl) hw) (fun r τ hP => ?_)
  obtain ⟨rfl, hs, h1, -⟩ := hP
  obtain ⟨hrd, hw1⟩ := h1 rfl
  have hX := TXM_same h hs
  have e13 : ga τ 73 13 = g 13 := (RW_71 hR hs) 13 (by omega) (by omega)
  simp (disch := first | with_reducible assumption | omega | exact ga_in _ _ _ | exact gg_in _ _ _ | (unfold InR; omega) | (unfold InL; omega) | (simp only [shC_71, shC_72, shC_73, shC_74, shC_75, shC_76, shC_77, shC_78, shC_79, shL_72, shL_73, shL_74, shL_75, shL_76, shL_77, shL_78, shL_79]; first | done | omega)) only [q152_5, q152_6, q152_7, q152_8, q152_11, q152_13, q152_14, q152_15, q152_16, shC_71, shC_72, shC_73, shC_74, shC_75, shC_76, shC_77, shC_78, shC_79, shL_72, shL_73, shL_74, shL_75, shL_76, shL_77, shL_78, shL_79, shR_71_0, shR_71_1, shR_71_2, shR_71_3, shR_71_4, shR_71_5, shR_71_8, shR_71_15, c221, e13, pushR_I, pushR_L, pushR_R, pushR_V, InR_gg, InR_ga, InR_wr, InL_gl, InR_b, b01, b01_0, if_true, if_false, not_true_eq_false, not_false_eq_true, and_true, true_and, and_self, Sum.inl.injEq, one0, Bool.false_eq_true]
  refine CalK_E (num_0 (d := d + 3) hX hp1 hrd (hi := g 13 - 1) i0 ⟨by omega, by omega⟩ hw1) (fun r υ hP => ?_)
  obtain ⟨hs2, h1, h2⟩ := hP
  have hX2 := TXM_same hX hs2
  have e28 : ga υ 73 28 = g 28 := (RW_71 (RW_71 hR hs) hs2) 28 (by omega) (by omega)
  by_cases c1 : tK b N (tE b N p) = 2 ∧ 0 ≤ tV b N (tE b N p) ∧ tV b N (tE b N p) ≤ g 13 - 1
  · rw [if_pos c1]
    obtain ⟨rfl, hrd2, hw2⟩ := h1 c1
    simp (disch := first | with_reducible assumption | omega | exact ga_in _ _ _ | exact gg_in _ _ _ | (unfold InR; omega) | (unfold InL; omega) | (simp only [shC_71, shC_72, shC_73, shC_74, shC_75, shC_76, shC_77, shC_78, shC_79, shL_72, shL_73, shL_74, shL_75, shL_76, shL_77, shL_78, shL_79]; first | done | omega)) only [q152_19, q152_20, q152_21, q152_22, q152_23, q152_26, q152_28, q152_29, q152_30, q152_31, shC_71, shC_72, shC_73, shC_74, shC_75, shC_76, shC_77, shC_78, shC_79, shL_72, shL_73, shL_74, shL_75, shL_76, shL_77, shL_78, shL_79, shR_71_0, shR_71_1, shR_71_2, shR_71_3, shR_71_4, shR_71_5, shR_71_8, shR_71_15, c221, e28, pushR_I, pushR_L, pushR_R, pushR_V, InR_gg, InR_ga, InR_wr, InL_gl, InR_b, b01, b01_0, if_true, if_false, not_true_eq_false, not_false_eq_true, and_true, true_and, and_self, Sum.inl.injEq, one0, Bool.false_eq_true]
    refine CalK_E (num_0 (d := d + 3) hX2 hp2 hrd2 (hi := g 28 - 1) i0 ⟨by omega, by omega⟩ hw2) (fun r χ hP => ?_)
    obtain ⟨hs3, h1, h2⟩ := hP
    have hRc : RW χ 73 221 g := RW_71 (RW_71 (RW_71 hR hs) hs2) hs3
    have hF : FRMM σ χ := FRMM_71 (SAM_trans (SAM_trans hs hs2) hs3)
    have f13 : ga χ 73 13 = g 13 := hRc 13 (by omega) (by omega)
    have f28 : ga χ 73 28 = g 28 := hRc 28 (by omega) (by omega)
    by_cases c2 : tK b N (tE b N (tE b N p)) = 2 ∧ 0 ≤ tV b N (tE b N (tE b N p)) ∧ tV b N (tE b N (tE b N p)) ≤ g 28 - 1
    · rw [if_pos c2]
      obtain ⟨rfl, hrd3, hw3⟩ := h1 c2
      simp (disch := first | with_reducible assumption | omega | exact ga_in _ _ _ | exact gg_in _ _ _ | (unfold InR; omega) | (unfold InL; omega) | (simp only [shC_71, shC_72, shC_73, shC_74, shC_75, shC_76, shC_77, shC_78, shC_79, shL_72, shL_73, shL_74, shL_75, shL_76, shL_77, shL_78, shL_79]; first | done | omega)) only [q152_34, q152_35, q152_36, q152_39, q152_42, q152_43, q152_46, q152_47, q152_48, q152_51, shC_71, shC_72, shC_73, shC_74, shC_75, shC_76, shC_77, shC_78, shC_79, shL_72, shL_73, shL_74, shL_75, shL_76, shL_77, shL_78, shL_79, shR_71_0, shR_71_1, shR_71_2, shR_71_3, shR_71_4, shR_71_5, shR_71_8, shR_71_15, hw3, k132 M73 (MOKn hRc (by omega) hg.1), pushR_I, pushR_L, pushR_R, pushR_V, InR_gg, InR_ga, InR_wr, InL_gl, InR_b, b01, b01_0, if_true, if_false, not_true_eq_false, not_false_eq_true, and_true, true_and, and_self, Sum.inl.injEq, one0, Bool.false_eq_true]
      refine ⟨rfl, FRMM_trans hF (FRMM_73 say_one), fun _ => ⟨RDM_73 hrd3 say_one, ((say_one (σ := χ) (m := 73)).1 71 14 (by omega)).trans hw3, RW_say hRc (by omega) hg.1 (by omega) (by omega)⟩, fun z => absurd z (by simp)⟩
    · rw [if_neg c2]
      obtain ⟨rfl, hrd3, hw3⟩ := h2 c2
      simp (disch := first | with_reducible assumption | omega | exact ga_in _ _ _ | exact gg_in _ _ _ | (unfold InR; omega) | (unfold InL; omega) | (simp only [shC_71, shC_72, shC_73, shC_74, shC_75, shC_76, shC_77, shC_78, shC_79, shL_72, shL_73, shL_74, shL_75, shL_76, shL_77, shL_78, shL_79]; first | done | omega)) only [q152_34, q152_35, q152_36, q152_39, q152_42, q152_43, q152_46, q152_47, q152_48, q152_51, shC_71, shC_72, shC_73, shC_74, shC_75, shC_76, shC_77, shC_78, shC_79, shL_72, shL_73, shL_74, shL_75, shL_76, shL_77, shL_78, shL_79, shR_71_0, shR_71_1, shR_71_2, shR_71_3, shR_71_4, shR_71_5, shR_71_8, shR_71_15, hw3, pushR_I, pushR_L, pushR_R, pushR_V, InR_gg, InR_ga, InR_wr, InL_gl, InR_b, b01, b01_0, if_true, if_false, not_true_eq_false, not_false_eq_true, and_true, true_and, and_self, Sum.inl.injEq, one0, Bool.false_eq_true]
      exact ⟨rfl, hF, fun z => absurd z (by simp), fun _ => ⟨hrd3, hw3⟩⟩
  · rw [if_neg c1]
    obtain ⟨rfl, hrd2, hw2⟩ := h2 c1
    simp (disch := first | with_reducible assumption | omega | exact ga_in _ _ _ | exact gg_in _ _ _ | (unfold InR; omega) | (unfold InL; omega) | (simp only [shC_71, shC_72, shC_73, shC_74, shC_75, shC_76, shC_77, shC_78, shC_79, shL_72, shL_73, shL_74, shL_75, shL_76, shL_77, shL_78, shL_79]; first | done | omega)) only [q152_19, q152_20, q152_21, q152_22, q152_23, q152_26, q152_28, q152_29, q152_30, q152_31, shC_71, shC_72, shC_73, shC_74, shC_75, shC_76, shC_77, shC_78, shC_79, shL_72, shL_73, shL_74, shL_75, shL_76, shL_77, shL_78, shL_79, shR_71_0, shR_71_1, shR_71_2, shR_71_3, shR_71_4, shR_71_5, shR_71_8, shR_71_15, c221, e28, pushR_I, pushR_L, pushR_R, pushR_V, InR_gg, InR_ga, InR_wr, InL_gl, InR_b, b01, b01_0, if_true, if_false, not_true_eq_false, not_false_eq_true, and_true, true_and, and_self, Sum.inl.injEq, one0, Bool.false_eq_true]
    refine CalK_E (num_w (d := d + 3) hX2 hp1 hrd2 (hi := g 28 - 1) i0 ⟨by omega, by omega⟩ hw2) (fun r χ hP => ?_)
    obtain ⟨rfl, hs3, hrd3, hw3⟩ := hP
    simp (disch := first | with_reducible assumption | omega | exact ga_in _ _ _ | exact gg_in _ _ _ | (unfold InR; omega) | (unfold InL; omega) | (simp only [shC_71, shC_72, shC_73, shC_74, shC_75, shC_76, shC_77, shC_78, shC_79, shL_72, shL_73, shL_74, shL_75, shL_76, shL_77, shL_78, shL_79]; first | done | omega)) only [q152_34, q152_35, q152_36, q152_39, q152_42, q152_43, q152_46, q152_47, q152_48, q152_51, shC_71, shC_72, shC_73, shC_74, shC_75, shC_76, shC_77, shC_78, shC_79, shL_72, shL_73, shL_74, shL_75, shL_76, shL_77, shL_78, shL_79, shR_71_0, shR_71_1, shR_71_2, shR_71_3, shR_71_4, shR_71_5, shR_71_8, shR_71_15, hw3, pushR_I, pushR_L, pushR_R, pushR_V, InR_gg, InR_ga, InR_wr, InL_gl, InR_b, b01, b01_0, if_true, if_false, not_true_eq_false, not_false_eq_true, and_true, true_and, and_self, Sum.inl.injEq, one0, Bool.false_eq_true]
    exact ⟨rfl, FRMM_71 (SAM_trans (SAM_trans hs hs2) hs3), fun z => absurd z (by simp), fun _ => ⟨hrd3, hw3⟩⟩
theorem m153 (h : TXM σ b N) {p : Nat} (hp : p ≤ N) (hr : RDM σ b N p) (hw : gg σ 71 14 = 0) {g : Int → Int} (hR : RW σ 73 221 g) (hg : ROK g) : CalE (d + 8) 153 [.inr (.inr (.inl 71))] σ (ITM σ b N (itForget b N p g)) := by
  have c221 : ((221 : Nat) : Int) = 221 := rfl
  have g13 := hg.1.1
  have hp1 := (tok_b h.2.2 hp).2.1
  obtain ⟨i0, i5, i1, i9, i99⟩ := i05
  refine Cal_ex (ls := [.inr (.inr (.inl 71)), aU]) rfl mna_153 mml_153 mhl_153 rfl rfl ?_
  unfold itForget
  simp (disch := first | with_reducible assumption | omega | exact ga_in _ _ _ | exact gg_in _ _ _ | (unfold InR; omega) | (unfold InL; omega) | (simp only [shC_71, shC_72, shC_73, shC_74, shC_75, shC_76, shC_77, shC_78, shC_79, shL_72, shL_73, shL_74, shL_75, shL_76, shL_77, shL_78, shL_79]; first | done | omega)) only [q153_0, q153_1, q153_2, shC_71, shC_72, shC_73, shC_74, shC_75, shC_76, shC_77, shC_78, shC_79, shL_72, shL_73, shL_74, shL_75, shL_76, shL_77, shL_78, shL_79, shR_71_0, shR_71_1, shR_71_2, shR_71_3, shR_71_4, shR_71_5, shR_71_8, shR_71_15, pushR_I, pushR_L, pushR_R, pushR_V, InR_gg, InR_ga, InR_wr, InL_gl, InR_b, b01, b01_0, if_true, if_false, not_true_eq_false, not_false_eq_true, and_true, true_and, and_self, Sum.inl.injEq, one0, Bool.false_eq_true]
  refine CalK_E (wrd_0 (d := d + 3) h hp hr (Or.inr rfl) hw) (fun r τ hP => ?_)
  obtain ⟨rfl, hs, h1, -⟩ := hP
  obtain ⟨hrd, hw1⟩ := h1 rfl
  have hX := TXM_same h hs
  have e13 : ga τ 73 13 = g 13 := (RW_71 hR hs) 13 (by omega) (by omega)
  simp (disch := first | with_reducible assumption | omega | exact ga_in _ _ _ | exact gg_in _ _ _ | (unfold InR; omega) | (unfold InL; omega) | (simp only [shC_71, shC_72, shC_73, shC_74, shC_75, shC_76, shC_77, shC_78, shC_79, shL_72, shL_73, shL_74, shL_75, shL_76, shL_77, shL_78, shL_79]; first | done | omega)) only [q153_5, q153_6, q153_7, q153_8, q153_11, q153_13, q153_14, q153_15, q153_16, shC_71, shC_72, shC_73, shC_74, shC_75, shC_76, shC_77, shC_78, shC_79, shL_72, shL_73, shL_74, shL_75, shL_76, shL_77, shL_78, shL_79, shR_71_0, shR_71_1, shR_71_2, shR_71_3, shR_71_4, shR_71_5, shR_71_8, shR_71_15, c221, e13, pushR_I, pushR_L, pushR_R, pushR_V, InR_gg, InR_ga, InR_wr, InL_gl, InR_b, b01, b01_0, if_true, if_false, not_true_eq_false, not_false_eq_true, and_true, true_and, and_self, Sum.inl.injEq, one0, Bool.false_eq_true]
  refine CalK_E (num_0 (d := d + 3) hX hp1 hrd (hi := g 13 - 1) i0 ⟨by omega, by omega⟩ hw1) (fun r υ hP => ?_)
  obtain ⟨hs2, h1, h2⟩ := hP
  have hRc : RW υ 73 221 g := RW_71 (RW_71 hR hs) hs2
  have hF : FRMM σ υ := FRMM_71 (SAM_trans hs hs2)
  by_cases c1 : tK b N (tE b N p) = 2 ∧ 0 ≤ tV b N (tE b N p) ∧ tV b N (tE b N p) ≤ g 13 - 1
  · rw [if_pos c1]
    obtain ⟨rfl, hrd3, hw3⟩ := h1 c1
    simp (disch := first | with_reducible assumption | omega | exact ga_in _ _ _ | exact gg_in _ _ _ | (unfold InR; omega) | (unfold InL; omega) | (simp only [shC_71, shC_72, shC_73, shC_74, shC_75, shC_76, shC_77, shC_78, shC_79, shL_72, shL_73, shL_74, shL_75, shL_76, shL_77, shL_78, shL_79]; first | done | omega)) only [q153_19, q153_20, q153_21, q153_24, q153_27, q153_28, q153_31, q153_33, q153_34, q153_35, q153_36, q153_37, shC_71, shC_72, shC_73, shC_74, shC_75, shC_76, shC_77, shC_78, shC_79, shL_72, shL_73, shL_74, shL_75, shL_76, shL_77, shL_78, shL_79, shR_71_0, shR_71_1, shR_71_2, shR_71_3, shR_71_4, shR_71_5, shR_71_8, shR_71_15, c221, hw3, pushR_I, pushR_L, pushR_R, pushR_V, InR_gg, InR_ga, InR_wr, InL_gl, InR_b, b01, b01_0, if_true, if_false, not_true_eq_false, not_false_eq_true, and_true, true_and, and_self, Sum.inl.injEq, one0, Bool.false_eq_true]
    have ho : ONE 73 υ (ua υ 73 (6 + tV b N (tE b N p)) 0) := ONE_ua (ONE_refl 73 υ)
    exact ⟨rfl, FRMM_trans hF (FRMM_73 ho), fun _ => ⟨RDM_73 hrd3 ho, (ho.1 71 14 (by omega)).trans hw3, RW_0 hRc (by omega)⟩, fun z => absurd z (by simp)⟩
  · rw [if_neg c1]
    obtain ⟨rfl, hrd3, hw3⟩ := h2 c1
    simp (disch := first | with_reducible assumption | omega | exact ga_in _ _ _ | exact gg_in _ _ _ | (unfold InR; omega) | (unfold InL; omega) | (simp only [shC_71, shC_72, shC_73, shC_74, shC_75, shC_76, shC_77, shC_78, shC_79, shL_72, shL_73, shL_74, shL_75, shL_76, shL_77, shL_78, shL_79]; first | done | omega)) only [q153_19, q153_20, q153_21, q153_24, q153_27, q153_28, q153_31, q153_33, q153_34, q153_35, q153_36, q153_37, shC_71, shC_72, shC_73, shC_74, shC_75, shC_76, shC_77, shC_78, shC_79, shL_72, shL_73, shL_74, shL_75, shL_76, shL_77, shL_78, shL_79, shR_71_0, shR_71_1, shR_71_2, shR_71_3, shR_71_4, shR_71_5, shR_71_8, shR_71_15, hw3, pushR_I, pushR_L, pushR_R, pushR_V, InR_gg, InR_ga, InR_wr, InL_gl, InR_b, b01, b01_0, if_true, if_false, not_true_eq_false, not_false_eq_true, and_true, true_and, and_self, Sum.inl.injEq, one0, Bool.false_eq_true]
    exact ⟨rfl, hF, fun z => absurd z (by simp), fun _ => ⟨hrd3, hw3⟩⟩
theorem l154 {M : Int} (hM : M ≤ 99) : ∀ (n i : Nat) (g : Int → Int) (τ : SG), (i : Int) + n = M → RW τ 73 221 g → GOK g → ONE 73 σ τ →
    (∀ τ', ONE 73 σ τ' → RW τ' 73 221 (rDays n g) → Q aU τ') → Wp none (d + 7) 154 15 [.inr (.inr (.inl 71)), .inl M, .inl (i : Int)] [] τ Q := by
  have c221 : ((221 : Nat) : Int) = 221 := rfl
  intro n
  induction n with
  | zero =>
    intro i g τ hi hr hg ho hq
    have e : M ≤ (i : Int) := by omega
    simp (disch := first | with_reducible assumption | omega | exact ga_in _ _ _ | exact gg_in _ _ _ | (unfold InR; omega) | (unfold InL; omega) | (simp only [shC_71, shC_72, shC_73, shC_74, shC_75, shC_76, shC_77, shC_78, shC_79, shL_72, shL_73, shL_74, shL_75, shL_76, shL_77, shL_78, shL_79]; first | done | omega)) only [q154_15, q154_16, q154_17, q154_45, e, pushR_I, pushR_L, pushR_R, pushR_V, InR_gg, InR_ga, InR_wr, InL_gl, InR_b, b01, b01_0, if_true, if_false, not_true_eq_false, not_false_eq_true, and_true, true_and, and_self, Sum.inl.injEq, one0, Bool.false_eq_true]
    exact hq τ ho hr
  | succ n ih =>
    intro i g τ hi hr hg ho hq
    have e : ¬ M ≤ (i : Int) := by omega
    have e0 : ga τ 73 0 = g 0 := hr 0 (by omega) (by omega)
    have g3 := hg.2.2.1
    simp only [rDays] at hq
    by_cases c : 9999 ≤ g 0
    · rw [if_pos c] at hq
      simp (disch := first | with_reducible assumption | omega | exact ga_in _ _ _ | exact gg_in _ _ _ | (unfold InR; omega) | (unfold InL; omega) | (simp only [shC_71, shC_72, shC_73, shC_74, shC_75, shC_76, shC_77, shC_78, shC_79, shL_72, shL_73, shL_74, shL_75, shL_76, shL_77, shL_78, shL_79]; first | done | omega)) only [q154_15, q154_16, q154_17, q154_20, q154_21, q154_24, q154_25, q154_26, q154_29, q154_32, q154_33, q154_36, q154_39, q154_45, shC_71, shC_72, shC_73, shC_74, shC_75, shC_76, shC_77, shC_78, shC_79, shL_72, shL_73, shL_74, shL_75, shL_76, shL_77, shL_78, shL_79, shR_71_0, shR_71_1, shR_71_2, shR_71_3, shR_71_4, shR_71_5, shR_71_8, shR_71_15, c221, e0, e, c, pushR_I, pushR_L, pushR_R, pushR_V, InR_gg, InR_ga, InR_wr, InL_gl, InR_b, b01, b01_0, if_true, if_false, not_true_eq_false, not_false_eq_true, and_true, true_and, and_self, Sum.inl.injEq, one0, Bool.false_eq_true]
      exact hq τ ho hr
    · rw [if_neg c] at hq
      simp (disch := first | with_reducible assumption | omega | exact ga_in _ _ _ | exact gg_in _ _ _ | (unfold InR; omega) | (unfold InL; omega) | (simp only [shC_71, shC_72, shC_73, shC_74, shC_75, shC_76, shC_77, shC_78, shC_79, shL_72, shL_73, shL_74, shL_75, shL_76, shL_77, shL_78, shL_79]; first | done | omega)) only [q154_15, q154_16, q154_17, q154_20, q154_21, q154_24, q154_25, q154_26, q154_29, q154_32, q154_33, q154_36, q154_39, shC_71, shC_72, shC_73, shC_74, shC_75, shC_76, shC_77, shC_78, shC_79, shL_72, shL_73, shL_74, shL_75, shL_76, shL_77, shL_78, shL_79, shR_71_0, shR_71_1, shR_71_2, shR_71_3, shR_71_4, shR_71_5, shR_71_8, shR_71_15, c221, e0, e, c, k133 M73, pushR_I, pushR_L, pushR_R, pushR_V, InR_gg, InR_ga, InR_wr, InL_gl, InR_b, b01, b01_0, if_true, if_false, not_true_eq_false, not_false_eq_true, and_true, true_and, and_self, Sum.inl.injEq, one0, Bool.false_eq_true]
      rw [q154_42]
      exact ih (i + 1) (rDay g) _ (by omega) (RW_day hr (by omega) ⟨by omega, by omega⟩) (GOK_day hg (by omega)) (ONE_trans ho day_one) hq
theorem m154 (h : TXM σ b N) {p : Nat} (hp : p ≤ N) (hr : RDM σ b N p) (hw : gg σ 71 14 = 0) {g : Int → Int} (hR : RW σ 73 221 g) (hg : ROK g) : CalE (d + 8) 154 [.inr (.inr (.inl 71))] σ (ITM σ b N (itDays b N p g)) := by
  have hp1 := (tok_b h.2.2 hp).2.1
  obtain ⟨i0, i5, i1, i9, i99⟩ := i05
  refine Cal_ex (ls := [.inr (.inr (.inl 71)), aU, aU]) rfl mna_154 mml_154 mhl_154 rfl rfl ?_
  unfold itDays
  simp (disch := first | with_reducible assumption | omega | exact ga_in _ _ _ | exact gg_in _ _ _ | (unfold InR; omega) | (unfold InL; omega) | (simp only [shC_71, shC_72, shC_73, shC_74, shC_75, shC_76, shC_77, shC_78, shC_79, shL_72, shL_73, shL_74, shL_75, shL_76, shL_77, shL_78, shL_79]; first | done | omega)) only [q154_0, q154_1, q154_2, shC_71, shC_72, shC_73, shC_74, shC_75, shC_76, shC_77, shC_78, shC_79, shL_72, shL_73, shL_74, shL_75, shL_76, shL_77, shL_78, shL_79, shR_71_0, shR_71_1, shR_71_2, shR_71_3, shR_71_4, shR_71_5, shR_71_8, shR_71_15, pushR_I, pushR_L, pushR_R, pushR_V, InR_gg, InR_ga, InR_wr, InL_gl, InR_b, b01, b01_0, if_true, if_false, not_true_eq_false, not_false_eq_true, and_true, true_and, and_self, Sum.inl.injEq, one0, Bool.false_eq_true]
  refine CalK_E (wrd_0 (d := d + 3) h hp hr (Or.inr rfl) hw) (fun r τ hP => ?_)
  obtain ⟨rfl, hs, h1, -⟩ := hP
  obtain ⟨hrd, hw1⟩ := h1 rfl
  have hX := TXM_same h hs
  simp (disch := first | with_reducible assumption | omega | exact ga_in _ _ _ | exact gg_in _ _ _ | (unfold InR; omega) | (unfold InL; omega) | (simp only [shC_71, shC_72, shC_73, shC_74, shC_75, shC_76, shC_77, shC_78, shC_79, shL_72, shL_73, shL_74, shL_75, shL_76, shL_77, shL_78, shL_79]; first | done | omega)) only [q154_5, q154_6, q154_7, q154_9, shC_71, shC_72, shC_73, shC_74, shC_75, shC_76, shC_77, shC_78, shC_79, shL_72, shL_73, shL_74, shL_75, shL_76, shL_77, shL_78, shL_79, shR_71_0, shR_71_1, shR_71_2, shR_71_3, shR_71_4, shR_71_5, shR_71_8, shR_71_15, pushR_I, pushR_L, pushR_R, pushR_V, InR_gg, InR_ga, InR_wr, InL_gl, InR_b, b01, b01_0, if_true, if_false, not_true_eq_false, not_false_eq_true, and_true, true_and, and_self, Sum.inl.injEq, one0, Bool.false_eq_true]
  refine CalK_E (num_0 (d := d + 3) hX hp1 hrd i1 i99 hw1) (fun r υ hP => ?_)
  obtain ⟨hs2, h1, h2⟩ := hP
  have hRc : RW υ 73 221 g := RW_71 (RW_71 hR hs) hs2
  have hF : FRMM σ υ := FRMM_71 (SAM_trans hs hs2)
  by_cases c1 : tK b N (tE b N p) = 2 ∧ 1 ≤ tV b N (tE b N p) ∧ tV b N (tE b N p) ≤ 99
  · rw [if_pos c1]
    obtain ⟨rfl, hrd3, hw3⟩ := h1 c1
    simp (disch := first | with_reducible assumption | omega | exact ga_in _ _ _ | exact gg_in _ _ _ | (unfold InR; omega) | (unfold InL; omega) | (simp only [shC_71, shC_72, shC_73, shC_74, shC_75, shC_76, shC_77, shC_78, shC_79, shL_72, shL_73, shL_74, shL_75, shL_76, shL_77, shL_78, shL_79]; first | done | omega)) only [q154_12, q154_13, q154_14, shC_71, shC_72, shC_73, shC_74, shC_75, shC_76, shC_77, shC_78, shC_79, shL_72, shL_73, shL_74, shL_75, shL_76, shL_77, shL_78, shL_79, shR_71_0, shR_71_1, shR_71_2, shR_71_3, shR_71_4, shR_71_5, shR_71_8, shR_71_15, pushR_I, pushR_L, pushR_R, pushR_V, InR_gg, InR_ga, InR_wr, InL_gl, InR_b, b01, b01_0, if_true, if_false, not_true_eq_false, not_false_eq_true, and_true, true_and, and_self, Sum.inl.injEq, one0, Bool.false_eq_true]
    exact l154 (d := d) (σ := υ) c1.2.2 (tV b N (tE b N p)).toNat 0 g υ (by omega) hRc hg.1 (ONE_refl _ _) (fun τ' ho hr' => ⟨rfl, FRMM_trans hF (FRMM_73 ho), fun _ => ⟨RDM_73 hrd3 ho, (ho.1 71 14 (by omega)).trans hw3, hr'⟩, fun z => absurd z (by simp)⟩)
  · rw [if_neg c1]
    obtain ⟨rfl, hrd3, hw3⟩ := h2 c1
    have e0 : (0 : Int) ≤ 0 := by omega
    simp (disch := first | with_reducible assumption | omega | exact ga_in _ _ _ | exact gg_in _ _ _ | (unfold InR; omega) | (unfold InL; omega) | (simp only [shC_71, shC_72, shC_73, shC_74, shC_75, shC_76, shC_77, shC_78, shC_79, shL_72, shL_73, shL_74, shL_75, shL_76, shL_77, shL_78, shL_79]; first | done | omega)) only [q154_12, q154_13, q154_14, q154_15, q154_16, q154_17, q154_45, shC_71, shC_72, shC_73, shC_74, shC_75, shC_76, shC_77, shC_78, shC_79, shL_72, shL_73, shL_74, shL_75, shL_76, shL_77, shL_78, shL_79, shR_71_0, shR_71_1, shR_71_2, shR_71_3, shR_71_4, shR_71_5, shR_71_8, shR_71_15, Int.le_refl, pushR_I, pushR_L, pushR_R, pushR_V, InR_gg, InR_ga, InR_wr, InL_gl, InR_b, b01, b01_0, if_true, if_false, not_true_eq_false, not_false_eq_true, and_true, true_and, and_self, Sum.inl.injEq, one0, Bool.false_eq_true]
    exact ⟨rfl, hF, fun z => absurd z (by simp), fun _ => ⟨hrd3, hw3⟩⟩
end ITEMM
