-- the reference: its first operations
section MOPS
variable {d : Nat} {σ : SG} {S : Nat → Int → Int} {K : AV → SG → Prop} {Q : AV → SG → Prop} {g : Int → Int} {m : Nat}
theorem m139 (hm : isM m) {kd u : Int} (h13 : 0 ≤ ga σ m 13 ∧ ga σ m 13 < 7) : Cal (d + 1) 139 [.inr (.inr (.inl m)), .inl kd, .inl u] σ (.inl (ga σ m 13)) (ua (ua (ua (ua σ m (14 + ga σ m 13) kd) m (21 + ga σ m 13) u) m (6 + ga σ m 13) 0) m 13 (ga σ m 13 + 1)) := by
  obtain ⟨c0, c1⟩ := isM_f hm
  have c221 : ((221 : Nat) : Int) = 221 := rfl
  refine Cal_in (ls := [.inr (.inr (.inl m)), .inl kd, .inl u, aU]) rfl mna_139 mml_139 mhl_139 rfl rfl ?_
  simp (disch := first | with_reducible assumption | omega | exact ga_in _ _ _ | exact gg_in _ _ _ | (unfold InR; omega) | (unfold InL; omega) | (simp only [shC_71, shC_72, shC_73, shC_74, shC_75, shC_76, shC_77, shC_78, shC_79, shL_72, shL_73, shL_74, shL_75, shL_76, shL_77, shL_78, shL_79]; first | done | omega)) only [q139_0, q139_1, q139_3, q139_4, q139_5, q139_6, q139_8, q139_9, q139_10, q139_11, q139_12, q139_13, q139_15, q139_16, q139_17, q139_18, q139_19, q139_20, q139_22, q139_23, q139_24, q139_25, q139_26, q139_27, q139_29, q139_30, q139_31, q139_32, q139_33, q139_34, q139_35, c0, c1, c221, ga_ua_ni, pushR_I, pushR_L, pushR_R, pushR_V, InR_gg, InR_ga, InR_wr, InL_gl, InR_b, b01, b01_0, if_true, if_false, not_true_eq_false, not_false_eq_true, and_true, true_and, and_self, Sum.inl.injEq, one0, Bool.false_eq_true]
  all_goals (first | rfl | exact ⟨rfl, rfl⟩ | exact ⟨trivial, trivial⟩)
theorem k139 (hm : isM m) {kd u : Int} (h13 : 0 ≤ ga σ m 13 ∧ ga σ m 13 < 7) : CalK (d + 1) 139 [.inr (.inr (.inl m)), .inl kd, .inl u] σ K = K (.inl (ga σ m 13)) (ua (ua (ua (ua σ m (14 + ga σ m 13) kd) m (21 + ga σ m 13) u) m (6 + ga σ m 13) 0) m 13 (ga σ m 13 + 1)) := CalK_eq (m139 hm h13)
theorem m140 (hm : isM m) {kd : Int} (h28 : 0 ≤ ga σ m 28 ∧ ga σ m 28 < 5) : Cal (d + 1) 140 [.inr (.inr (.inl m)), .inl kd] σ (.inl (ga σ m 28)) (ua (ua (ua σ m (29 + ga σ m 28) kd) m (1 + ga σ m 28) 0) m 28 (ga σ m 28 + 1)) := by
  obtain ⟨c0, c1⟩ := isM_f hm
  have c221 : ((221 : Nat) : Int) = 221 := rfl
  refine Cal_in (ls := [.inr (.inr (.inl m)), .inl kd, aU]) rfl mna_140 mml_140 mhl_140 rfl rfl ?_
  simp (disch := first | with_reducible assumption | omega | exact ga_in _ _ _ | exact gg_in _ _ _ | (unfold InR; omega) | (unfold InL; omega) | (simp only [shC_71, shC_72, shC_73, shC_74, shC_75, shC_76, shC_77, shC_78, shC_79, shL_72, shL_73, shL_74, shL_75, shL_76, shL_77, shL_78, shL_79]; first | done | omega)) only [q140_0, q140_1, q140_3, q140_4, q140_5, q140_6, q140_8, q140_9, q140_10, q140_11, q140_12, q140_13, q140_14, q140_15, q140_16, q140_17, q140_18, q140_19, q140_21, q140_22, q140_23, q140_24, q140_25, q140_26, q140_27, c0, c1, c221, ga_ua_ni, pushR_I, pushR_L, pushR_R, pushR_V, InR_gg, InR_ga, InR_wr, InL_gl, InR_b, b01, b01_0, if_true, if_false, not_true_eq_false, not_false_eq_true, and_true, true_and, and_self, Sum.inl.injEq, one0, Bool.false_eq_true]
  all_goals (first | rfl | exact ⟨rfl, rfl⟩ | exact ⟨trivial, trivial⟩)
theorem k140 (hm : isM m) {kd : Int} (h28 : 0 ≤ ga σ m 28 ∧ ga σ m 28 < 5) : CalK (d + 1) 140 [.inr (.inr (.inl m)), .inl kd] σ K = K (.inl (ga σ m 28)) (ua (ua (ua σ m (29 + ga σ m 28) kd) m (1 + ga σ m 28) 0) m 28 (ga σ m 28 + 1)) := CalK_eq (m140 hm h28)
theorem M72 : isM 72 := Or.inl rfl
theorem M73 : isM 73 := Or.inr (Or.inl rfl)
theorem M74 : isM 74 := Or.inr (Or.inr rfl)
def asIt (σ : SG) : SG := mR σ 74 0 34 (fun x => ga σ 72 (0 + (x : Int)))
theorem m137 : Cal (d + 2) 137 [.inr (.inr (.inl 71))] σ aU (asIt σ) := by
  have K1 : ∀ K, CalK (d + 1) 136 [.inr (.inr (.inl 72)), .inl 0, .inr (.inr (.inl 74)), .inl 0, .inl 34] σ K = K aU (asIt σ) := fun K => k136 (f := 72) (t := 74) (i := 0) (j := 0) (N := 34) shC_72 shC_74 (by rw [shL_72]; omega) (by rw [shL_74]; omega) (Or.inl (by omega))
  refine Cal_in (ls := [.inr (.inr (.inl 71))]) rfl mna_137 mml_137 mhl_137 rfl rfl ?_
  simp (disch := first | with_reducible assumption | omega | exact ga_in _ _ _ | exact gg_in _ _ _ | (unfold InR; omega) | (unfold InL; omega) | (simp only [shC_71, shC_72, shC_73, shC_74, shC_75, shC_76, shC_77, shC_78, shC_79, shL_72, shL_73, shL_74, shL_75, shL_76, shL_77, shL_78, shL_79]; first | done | omega)) only [q137_0, q137_1, q137_4, q137_5, q137_6, q137_9, q137_10, q137_12, q137_15, shC_71, shC_72, shC_73, shC_74, shC_75, shC_76, shC_77, shC_78, shC_79, shL_72, shL_73, shL_74, shL_75, shL_76, shL_77, shL_78, shL_79, shR_71_0, shR_71_1, shR_71_2, shR_71_3, shR_71_4, shR_71_5, shR_71_8, shR_71_15, K1, pushR_I, pushR_L, pushR_R, pushR_V, InR_gg, InR_ga, InR_wr, InL_gl, InR_b, b01, b01_0, if_true, if_false, not_true_eq_false, not_false_eq_true, and_true, true_and, and_self, Sum.inl.injEq, one0, Bool.false_eq_true]
theorem k137 : CalK (d + 2) 137 [.inr (.inr (.inl 71))] σ K = K aU (asIt σ) := CalK_eq m137
theorem RW_asIt (h : RW σ 72 221 g) : RW (asIt σ) 74 34 g := by
  intro i h0 h1
  unfold asIt
  rw [ga_mR _ _ _ _ _ _ h0, if_pos rfl, if_pos ⟨by omega, by omega⟩, wr_id (ga_in _ _ _), show (0 + ((i.toNat - 0 : Nat) : Int)) = i by omega]
  exact h i h0 (by omega)
theorem asIt_one : ONE 74 σ (asIt σ) := ONE_mR (ONE_refl 74 σ)
theorem l138 {v : AV} : ∀ (n i : Nat), i + n = 221 → Wp none (d + 19) 138 10 [.inr (.inr (.inl 71)), v, .inl (i : Int)] [] (mR σ 72 0 i (fun _ => 0)) Q = Wp none (d + 19) 138 30 [.inr (.inr (.inl 71)), v, .inl 221] [] (mR σ 72 0 221 (fun _ => 0)) Q := by
  intro n
  induction n with
  | zero =>
    intro i hi
    have e : i = 221 := by omega
    subst e
    have e3 : ((221 : Nat) : Int) = 221 := rfl
    simp (disch := first | with_reducible assumption | omega | exact ga_in _ _ _ | exact gg_in _ _ _ | (unfold InR; omega) | (unfold InL; omega) | (simp only [shC_71, shC_72, shC_73, shC_74, shC_75, shC_76, shC_77, shC_78, shC_79, shL_72, shL_73, shL_74, shL_75, shL_76, shL_77, shL_78, shL_79]; first | done | omega)) only [q138_10, q138_11, q138_14, e3, Int.le_refl, pushR_I, pushR_L, pushR_R, pushR_V, InR_gg, InR_ga, InR_wr, InL_gl, InR_b, b01, b01_0, if_true, if_false, not_true_eq_false, not_false_eq_true, and_true, true_and, and_self, Sum.inl.injEq, one0, Bool.false_eq_true]
  | succ n ih =>
    intro i hi
    have e : ¬ (221 : Int) ≤ (i : Int) := by omega
    have e3 : ((221 : Nat) : Int) = 221 := rfl
    simp (disch := first | with_reducible assumption | omega | exact ga_in _ _ _ | exact gg_in _ _ _ | (unfold InR; omega) | (unfold InL; omega) | (simp only [shC_71, shC_72, shC_73, shC_74, shC_75, shC_76, shC_77, shC_78, shC_79, shL_72, shL_73, shL_74, shL_75, shL_76, shL_77, shL_78, shL_79]; first | done | omega)) only [q138_10, q138_11, q138_14, q138_17, q138_18, q138_21, q138_22, q138_23, q138_24, shC_71, shC_72, shC_73, shC_74, shC_75, shC_76, shC_77, shC_78, shC_79, shL_72, shL_73, shL_74, shL_75, shL_76, shL_77, shL_78, shL_79, shR_71_0, shR_71_1, shR_71_2, shR_71_3, shR_71_4, shR_71_5, shR_71_8, shR_71_15, e3, e, pushR_I, pushR_L, pushR_R, pushR_V, InR_gg, InR_ga, InR_wr, InL_gl, InR_b, b01, b01_0, if_true, if_false, not_true_eq_false, not_false_eq_true, and_true, true_and, and_self, Sum.inl.injEq, one0, Bool.false_eq_true]
    rw [q138_27, mR_step (b := 0) (i := i) (g := fun _ => 0) σ (by omega) rfl]
    exact ih (i + 1) (by omega)
theorem o138 (h : MR σ S) (hS : SOK S) : CalE (d + 20) 138 [.inr (.inr (.inl 71))] σ (OPM σ (fTown S)) := by
  have e13 : ga σ 72 13 = S 0 13 := h.1 13 (by omega) (by omega)
  have c221 : ((221 : Nat) : Int) = 221 := rfl
  refine Cal_ex (ls := [.inr (.inr (.inl 71)), aU, aU]) rfl mna_138 mml_138 mhl_138 rfl rfl ?_
  simp (disch := first | with_reducible assumption | omega | exact ga_in _ _ _ | exact gg_in _ _ _ | (unfold InR; omega) | (unfold InL; omega) | (simp only [shC_71, shC_72, shC_73, shC_74, shC_75, shC_76, shC_77, shC_78, shC_79, shL_72, shL_73, shL_74, shL_75, shL_76, shL_77, shL_78, shL_79]; first | done | omega)) only [q138_0, q138_1, q138_4, q138_6, q138_7, q138_8, q138_9, shC_71, shC_72, shC_73, shC_74, shC_75, shC_76, shC_77, shC_78, shC_79, shL_72, shL_73, shL_74, shL_75, shL_76, shL_77, shL_78, shL_79, shR_71_0, shR_71_1, shR_71_2, shR_71_3, shR_71_4, shR_71_5, shR_71_8, shR_71_15, c221, pushR_I, pushR_L, pushR_R, pushR_V, InR_gg, InR_ga, InR_wr, InL_gl, InR_b, b01, b01_0, if_true, if_false, not_true_eq_false, not_false_eq_true, and_true, true_and, and_self, Sum.inl.injEq, one0, Bool.false_eq_true]
  rw [e13]
  have h1 := l138 (d := d) (σ := σ) (v := .inl (S 0 13)) (Q := OPM σ (fTown S)) 221 0 (by omega)
  rw [mR_0] at h1
  refine h1.mpr ?_
  have hr : InR (S 0 13) := by rw [← e13]; exact ga_in _ _ _
  simp (disch := first | with_reducible assumption | omega | exact ga_in _ _ _ | exact gg_in _ _ _ | (unfold InR; omega) | (unfold InL; omega) | (simp only [shC_71, shC_72, shC_73, shC_74, shC_75, shC_76, shC_77, shC_78, shC_79, shL_72, shL_73, shL_74, shL_75, shL_76, shL_77, shL_78, shL_79]; first | done | omega)) only [q138_30, q138_31, pushR_I, pushR_L, pushR_R, pushR_V, InR_gg, InR_ga, InR_wr, InL_gl, InR_b, b01, b01_0, if_true, if_false, not_true_eq_false, not_false_eq_true, and_true, true_and, and_self, Sum.inl.injEq, one0, Bool.false_eq_true]
  refine MO_row h (fun i h0 h1 => ?_) (ONE_mR (ONE_refl 72 σ))
  rw [ga_mR _ _ _ _ _ _ h0, if_pos rfl, if_pos ⟨by omega, by omega⟩]
  rfl
theorem o141 (h : MR σ S) (hS : SOK S) {kd u : Int} (hk : InR kd) (hu : InR u) : CalE (d + 20) 141 [.inr (.inr (.inl 71)), .inl kd, .inl u] σ (OPM σ (fLie S kd u)) := by
  have e13 : ga σ 72 13 = S 0 13 := h.1 13 (by omega) (by omega)
  have g13 := hS.1.1
  have c221 : ((221 : Nat) : Int) = 221 := rfl
  refine Cal_ex (ls := [.inr (.inr (.inl 71)), .inl kd, .inl u]) rfl mna_141 mml_141 mhl_141 rfl rfl ?_
  unfold fLie
  by_cases h1 : 0 ≤ kd ∧ kd ≤ 5
  · by_cases h2 : 1 ≤ u ∧ u ≤ 9
    · rw [if_pos ⟨h1, h2⟩]
      by_cases h3 : 7 ≤ S 0 13
      · have h3' : ga σ 72 13 = 7 := by omega
        rw [if_pos h3]
        simp (disch := first | with_reducible assumption | omega | exact ga_in _ _ _ | exact gg_in _ _ _ | (unfold InR; omega) | (unfold InL; omega) | (simp only [shC_71, shC_72, shC_73, shC_74, shC_75, shC_76, shC_77, shC_78, shC_79, shL_72, shL_73, shL_74, shL_75, shL_76, shL_77, shL_78, shL_79]; first | done | omega)) only [q141_0, q141_1, q141_2, q141_3, q141_6, q141_9, q141_10, q141_11, q141_13, q141_16, q141_19, q141_20, q141_23, q141_24, q141_25, q141_28, q141_30, q141_31, q141_33, q141_36, q141_37, q141_40, q141_41, q141_42, q141_45, q141_47, q141_48, q141_49, q141_50, q141_53, q141_54, q141_55, q141_58, shC_71, shC_72, shC_73, shC_74, shC_75, shC_76, shC_77, shC_78, shC_79, shL_72, shL_73, shL_74, shL_75, shL_76, shL_77, shL_78, shL_79, shR_71_0, shR_71_1, shR_71_2, shR_71_3, shR_71_4, shR_71_5, shR_71_8, shR_71_15, c221, k116, h1, h2, h3', k120, pushR_I, pushR_L, pushR_R, pushR_V, InR_gg, InR_ga, InR_wr, InL_gl, InR_b, b01, b01_0, if_true, if_false, not_true_eq_false, not_false_eq_true, and_true, true_and, and_self, Sum.inl.injEq, one0, Bool.false_eq_true]
        exact MO_full h
      · have h3' : ¬ ga σ 72 13 = 7 := by omega
        have f1 : ga (ua σ 72 116 0) 72 13 = ga σ 72 13 := ga_ua_ni _ _ _ _ _ (by omega) (by omega) (by omega)
        rw [if_neg h3]
        have r13 : r0 (S 0) 116 13 = S 0 13 := by unfold r0; rw [if_neg (by omega)]
        have m2 := RW_lie (kd := kd) (u := u) (RW_0 (k := 116) h.1 (by omega)) (GOK_r0 hS.1 (by omega)) (by omega) hk hu
        simp (disch := first | with_reducible assumption | omega | exact ga_in _ _ _ | exact gg_in _ _ _ | (unfold InR; omega) | (unfold InL; omega) | (simp only [shC_71, shC_72, shC_73, shC_74, shC_75, shC_76, shC_77, shC_78, shC_79, shL_72, shL_73, shL_74, shL_75, shL_76, shL_77, shL_78, shL_79]; first | done | omega)) only [q141_0, q141_1, q141_2, q141_3, q141_6, q141_9, q141_10, q141_11, q141_13, q141_16, q141_19, q141_20, q141_23, q141_24, q141_25, q141_28, q141_30, q141_31, q141_33, q141_36, q141_37, q141_40, q141_41, q141_42, q141_45, q141_47, q141_48, q141_49, q141_50, q141_53, q141_54, q141_55, q141_58, shC_71, shC_72, shC_73, shC_74, shC_75, shC_76, shC_77, shC_78, shC_79, shL_72, shL_73, shL_74, shL_75, shL_76, shL_77, shL_78, shL_79, shR_71_0, shR_71_1, shR_71_2, shR_71_3, shR_71_4, shR_71_5, shR_71_8, shR_71_15, c221, k116, h1, h2, h3', k139 M72, pushR_I, pushR_L, pushR_R, pushR_V, InR_gg, InR_ga, InR_wr, InL_gl, InR_b, b01, b01_0, if_true, if_false, not_true_eq_false, not_false_eq_true, and_true, true_and, and_self, Sum.inl.injEq, one0, Bool.false_eq_true]
        refine ⟨?_, MR_row h m2 (ONE_ua (ONE_ua (ONE_ua (ONE_ua (ONE_ua (ONE_refl 72 σ)))))), MLO_one (ONE_ua (ONE_ua (ONE_ua (ONE_ua (ONE_ua (ONE_refl 72 σ)))))) (by omega)⟩
        rw [f1, e13]
    · rw [if_neg (fun q => h2 q.2)]
      simp (disch := first | with_reducible assumption | omega | exact ga_in _ _ _ | exact gg_in _ _ _ | (unfold InR; omega) | (unfold InL; omega) | (simp only [shC_71, shC_72, shC_73, shC_74, shC_75, shC_76, shC_77, shC_78, shC_79, shL_72, shL_73, shL_74, shL_75, shL_76, shL_77, shL_78, shL_79]; first | done | omega)) only [q141_0, q141_1, q141_2, q141_3, q141_6, q141_9, q141_10, q141_11, q141_13, q141_16, q141_19, q141_20, q141_23, q141_24, q141_25, q141_28, q141_30, q141_31, q141_33, q141_36, q141_37, q141_40, q141_41, q141_42, q141_45, q141_47, q141_48, q141_49, q141_50, q141_53, q141_54, q141_55, q141_58, shC_71, shC_72, shC_73, shC_74, shC_75, shC_76, shC_77, shC_78, shC_79, shL_72, shL_73, shL_74, shL_75, shL_76, shL_77, shL_78, shL_79, shR_71_0, shR_71_1, shR_71_2, shR_71_3, shR_71_4, shR_71_5, shR_71_8, shR_71_15, k116, h1, h2, k118, pushR_I, pushR_L, pushR_R, pushR_V, InR_gg, InR_ga, InR_wr, InL_gl, InR_b, b01, b01_0, if_true, if_false, not_true_eq_false, not_false_eq_true, and_true, true_and, and_self, Sum.inl.injEq, one0, Bool.false_eq_true]
      exact MO_bad h
  · rw [if_neg (fun q => h1 q.1)]
    simp (disch := first | with_reducible assumption | omega | exact ga_in _ _ _ | exact gg_in _ _ _ | (unfold InR; omega) | (unfold InL; omega) | (simp only [shC_71, shC_72, shC_73, shC_74, shC_75, shC_76, shC_77, shC_78, shC_79, shL_72, shL_73, shL_74, shL_75, shL_76, shL_77, shL_78, shL_79]; first | done | omega)) only [q141_0, q141_1, q141_2, q141_3, q141_6, q141_9, q141_10, q141_11, q141_13, q141_16, q141_19, q141_20, q141_23, q141_24, q141_25, q141_28, q141_30, q141_31, q141_33, q141_36, q141_37, q141_40, q141_41, q141_42, q141_45, q141_47, q141_48, q141_49, q141_50, q141_53, q141_54, q141_55, q141_58, shC_71, shC_72, shC_73, shC_74, shC_75, shC_76, shC_77, shC_78, shC_79, shL_72, shL_73, shL_74, shL_75, shL_76, shL_77, shL_78, shL_79, shR_71_0, shR_71_1, shR_71_2, shR_71_3, shR_71_4, shR_71_5, shR_71_8, shR_71_15, k116, h1, k118, pushR_I, pushR_L, pushR_R, pushR_V, InR_gg, InR_ga, InR_wr, InL_gl, InR_b, b01, b01_0, if_true, if_false, not_true_eq_false, not_false_eq_true, and_true, true_and, and_self, Sum.inl.injEq, one0, Bool.false_eq_true]
    exact MO_bad h
theorem o142 (h : MR σ S) (hS : SOK S) {kd : Int} (hk : InR kd) : CalE (d + 20) 142 [.inr (.inr (.inl 71)), .inl kd] σ (OPM σ (fOven S kd)) := by
  have e28 : ga σ 72 28 = S 0 28 := h.1 28 (by omega) (by omega)
  have g28 := hS.1.2.1
  have c221 : ((221 : Nat) : Int) = 221 := rfl
  refine Cal_ex (ls := [.inr (.inr (.inl 71)), .inl kd]) rfl mna_142 mml_142 mhl_142 rfl rfl ?_
  unfold fOven
  by_cases h1 : 0 ≤ kd ∧ kd ≤ 5
  · rw [if_pos h1]
    by_cases h3 : 5 ≤ S 0 28
    · have h3' : ga σ 72 28 = 5 := by omega
      rw [if_pos h3]
      simp (disch := first | with_reducible assumption | omega | exact ga_in _ _ _ | exact gg_in _ _ _ | (unfold InR; omega) | (unfold InL; omega) | (simp only [shC_71, shC_72, shC_73, shC_74, shC_75, shC_76, shC_77, shC_78, shC_79, shL_72, shL_73, shL_74, shL_75, shL_76, shL_77, shL_78, shL_79]; first | done | omega)) only [q142_0, q142_1, q142_2, q142_3, q142_6, q142_9, q142_10, q142_13, q142_14, q142_15, q142_18, q142_20, q142_21, q142_22, q142_25, q142_26, q142_29, q142_30, q142_31, q142_34, q142_36, q142_37, q142_38, q142_39, q142_42, q142_43, q142_46, shC_71, shC_72, shC_73, shC_74, shC_75, shC_76, shC_77, shC_78, shC_79, shL_72, shL_73, shL_74, shL_75, shL_76, shL_77, shL_78, shL_79, shR_71_0, shR_71_1, shR_71_2, shR_71_3, shR_71_4, shR_71_5, shR_71_8, shR_71_15, c221, k116, h1, h3', k120, pushR_I, pushR_L, pushR_R, pushR_V, InR_gg, InR_ga, InR_wr, InL_gl, InR_b, b01, b01_0, if_true, if_false, not_true_eq_false, not_false_eq_true, and_true, true_and, and_self, Sum.inl.injEq, one0, Bool.false_eq_true]
      exact MO_full h
    · have h3' : ¬ ga σ 72 28 = 5 := by omega
      have f1 : ga (ua σ 72 116 0) 72 28 = ga σ 72 28 := ga_ua_ni _ _ _ _ _ (by omega) (by omega) (by omega)
      rw [if_neg h3]
      have r28 : r0 (S 0) 116 28 = S 0 28 := by unfold r0; rw [if_neg (by omega)]
      have m2 := RW_oven (kd := kd) (RW_0 (k := 116) h.1 (by omega)) (GOK_r0 hS.1 (by omega)) (by omega) hk
      simp (disch := first | with_reducible assumption | omega | exact ga_in _ _ _ | exact gg_in _ _ _ | (unfold InR; omega) | (unfold InL; omega) | (simp only [shC_71, shC_72, shC_73, shC_74, shC_75, shC_76, shC_77, shC_78, shC_79, shL_72, shL_73, shL_74, shL_75, shL_76, shL_77, shL_78, shL_79]; first | done | omega)) only [q142_0, q142_1, q142_2, q142_3, q142_6, q142_9, q142_10, q142_13, q142_14, q142_15, q142_18, q142_20, q142_21, q142_22, q142_25, q142_26, q142_29, q142_30, q142_31, q142_34, q142_36, q142_37, q142_38, q142_39, q142_42, q142_43, q142_46, shC_71, shC_72, shC_73, shC_74, shC_75, shC_76, shC_77, shC_78, shC_79, shL_72, shL_73, shL_74, shL_75, shL_76, shL_77, shL_78, shL_79, shR_71_0, shR_71_1, shR_71_2, shR_71_3, shR_71_4, shR_71_5, shR_71_8, shR_71_15, c221, k116, h1, h3', k140 M72, pushR_I, pushR_L, pushR_R, pushR_V, InR_gg, InR_ga, InR_wr, InL_gl, InR_b, b01, b01_0, if_true, if_false, not_true_eq_false, not_false_eq_true, and_true, true_and, and_self, Sum.inl.injEq, one0, Bool.false_eq_true]
      refine ⟨?_, MR_row h m2 (ONE_ua (ONE_ua (ONE_ua (ONE_ua (ONE_refl 72 σ))))), MLO_one (ONE_ua (ONE_ua (ONE_ua (ONE_ua (ONE_refl 72 σ))))) (by omega)⟩
      rw [f1, e28]
  · rw [if_neg h1]
    simp (disch := first | with_reducible assumption | omega | exact ga_in _ _ _ | exact gg_in _ _ _ | (unfold InR; omega) | (unfold InL; omega) | (simp only [shC_71, shC_72, shC_73, shC_74, shC_75, shC_76, shC_77, shC_78, shC_79, shL_72, shL_73, shL_74, shL_75, shL_76, shL_77, shL_78, shL_79]; first | done | omega)) only [q142_0, q142_1, q142_2, q142_3, q142_6, q142_9, q142_10, q142_13, q142_14, q142_15, q142_18, q142_20, q142_21, q142_22, q142_25, q142_26, q142_29, q142_30, q142_31, q142_34, q142_36, q142_37, q142_38, q142_39, q142_42, q142_43, q142_46, shC_71, shC_72, shC_73, shC_74, shC_75, shC_76, shC_77, shC_78, shC_79, shL_72, shL_73, shL_74, shL_75, shL_76, shL_77, shL_78, shL_79, shR_71_0, shR_71_1, shR_71_2, shR_71_3, shR_71_4, shR_71_5, shR_71_8, shR_71_15, k116, h1, k118, pushR_I, pushR_L, pushR_R, pushR_V, InR_gg, InR_ga, InR_wr, InL_gl, InR_b, b01, b01_0, if_true, if_false, not_true_eq_false, not_false_eq_true, and_true, true_and, and_self, Sum.inl.injEq, one0, Bool.false_eq_true]
    exact MO_bad h
theorem MR_text {τ : SG} {S' : Nat → Int → Int} (h : MR σ S) (hs : ∀ a b, ¬ a = 78 → ¬ (a = 71 ∧ b = 9) → gg τ a b = gg σ a b) (hl : ∀ b, gl τ 71 b = gl σ 71 b) (s0 : ∀ a, a < 3 → S' a = S a) (s4 : ∀ x, ¬ x = 2 → S' 4 x = S 4 x)
    (c : gg τ 71 9 = S' 4 2 ∧ ∀ i : Int, 0 ≤ i → i < S' 4 2 → ga τ 78 i = S' 3 i) : MR τ S' := by
  obtain ⟨c1, c2, c3, ⟨c4, c5⟩, -, ⟨c8, c9, c10⟩, c11, c12⟩ := h
  unfold MR
  rw [s0 0 (by omega), s0 1 (by omega), s0 2 (by omega), s4 0 (by omega), s4 1 (by omega), s4 3 (by omega), s4 4 (by omega), s4 5 (by omega), s4 6 (by omega), s4 7 (by omega)]
  exact ⟨fun i a b => (hs 72 _ (by omega) (by omega)).trans (c1 i a b), fun q i a b => (hs 75 _ (by omega) (by omega)).trans (c2 q i a b), fun q i a b => (hs 75 _ (by omega) (by omega)).trans (c3 q i a b), ⟨(hs 76 _ (by omega) (by omega)).trans c4, (hs 76 _ (by omega) (by omega)).trans c5⟩, c, ⟨(hs 77 _ (by omega) (by omega)).trans c8, (hs 77 _ (by omega) (by omega)).trans c9, (hs 77 _ (by omega) (by omega)).trans c10⟩, (hl 6).trans c11, (hl 7).trans c12⟩
theorem o143 (h : MR σ S) (hS : SOK S) {c : Int} (hc : InR c) : CalE (d + 20) 143 [.inr (.inr (.inl 71)), .inl c] σ (OPM σ (fType S c)) := by
  obtain ⟨et, ex⟩ := h.2.2.2.2.1
  have hb := hS.2.2.2.2.2.2.1
  have c150 : ((150 : Nat) : Int) = 150 := rfl
  refine Cal_ex (ls := [.inr (.inr (.inl 71)), .inl c]) rfl mna_143 mml_143 mhl_143 rfl rfl ?_
  unfold fType
  by_cases h1 : 0 ≤ c ∧ c ≤ 127
  · rw [if_pos h1]
    by_cases h3 : 150 ≤ S 4 2
    · have h3' : gg σ 71 9 = 150 := by omega
      rw [if_pos h3]
      simp (disch := first | with_reducible assumption | omega | exact ga_in _ _ _ | exact gg_in _ _ _ | (unfold InR; omega) | (unfold InL; omega) | (simp only [shC_71, shC_72, shC_73, shC_74, shC_75, shC_76, shC_77, shC_78, shC_79, shL_72, shL_73, shL_74, shL_75, shL_76, shL_77, shL_78, shL_79]; first | done | omega)) only [q143_0, q143_1, q143_2, q143_4, q143_7, q143_10, q143_11, q143_14, q143_15, q143_16, q143_19, q143_22, q143_25, q143_26, q143_29, q143_30, q143_31, q143_34, q143_35, q143_38, q143_39, q143_40, q143_41, q143_42, q143_45, q143_46, q143_47, q143_50, q143_51, q143_54, shC_71, shC_72, shC_73, shC_74, shC_75, shC_76, shC_77, shC_78, shC_79, shL_72, shL_73, shL_74, shL_75, shL_76, shL_77, shL_78, shL_79, shR_71_0, shR_71_1, shR_71_2, shR_71_3, shR_71_4, shR_71_5, shR_71_8, shR_71_15, k116, h1, h3', k120, pushR_I, pushR_L, pushR_R, pushR_V, InR_gg, InR_ga, InR_wr, InL_gl, InR_b, b01, b01_0, if_true, if_false, not_true_eq_false, not_false_eq_true, and_true, true_and, and_self, Sum.inl.injEq, one0, Bool.false_eq_true]
      exact MO_full h
    · have h3' : ¬ gg σ 71 9 = 150 := by omega
      have hw : wr (S 4 2 + 1) = S 4 2 + 1 := wr_id ⟨by omega, by omega⟩
      have h3s : ¬ S 4 2 = 150 := by omega
      rw [if_neg h3]
      simp (disch := first | with_reducible assumption | omega | exact ga_in _ _ _ | exact gg_in _ _ _ | (unfold InR; omega) | (unfold InL; omega) | (simp only [shC_71, shC_72, shC_73, shC_74, shC_75, shC_76, shC_77, shC_78, shC_79, shL_72, shL_73, shL_74, shL_75, shL_76, shL_77, shL_78, shL_79]; first | done | omega)) only [q143_0, q143_1, q143_2, q143_4, q143_7, q143_10, q143_11, q143_14, q143_15, q143_16, q143_19, q143_22, q143_25, q143_26, q143_29, q143_30, q143_31, q143_34, q143_35, q143_38, q143_39, q143_40, q143_41, q143_42, q143_45, q143_46, q143_47, q143_50, q143_51, q143_54, shC_71, shC_72, shC_73, shC_74, shC_75, shC_76, shC_77, shC_78, shC_79, shL_72, shL_73, shL_74, shL_75, shL_76, shL_77, shL_78, shL_79, shR_71_0, shR_71_1, shR_71_2, shR_71_3, shR_71_4, shR_71_5, shR_71_8, shR_71_15, c150, k116, h1, et, h3s, gg_ug_eq, gg_ua_ne, hw, pushR_I, pushR_L, pushR_R, pushR_V, InR_gg, InR_ga, InR_wr, InL_gl, InR_b, b01, b01_0, if_true, if_false, not_true_eq_false, not_false_eq_true, and_true, true_and, and_self, Sum.inl.injEq, one0, Bool.false_eq_true]
      have a42 : addT S c 4 2 = S 4 2 + 1 := by unfold addT; rw [if_pos ⟨rfl, rfl⟩]
      have a3 : ∀ i, addT S c 3 i = if i = S 4 2 then c else S 3 i := fun i => by
        unfold addT
        rw [if_neg (by omega)]
        by_cases e : i = S 4 2
        · rw [if_pos ⟨rfl, e⟩, if_pos e]
        · rw [if_neg (fun z => e z.2), if_neg e]
      have aa : ∀ a, a < 3 → addT S c a = S a := fun a q => by funext x; unfold addT; rw [if_neg (by omega), if_neg (by omega)]
      have a4 : ∀ x, ¬ x = 2 → addT S c 4 x = S 4 x := fun x q => by unfold addT; rw [if_neg (by omega), if_neg (by omega)]
      refine ⟨rfl, MR_text (S' := addT S c) h (fun a b q r => by rw [gg_ug_ne _ _ _ _ _ _ r, gg_ua_ne _ _ _ _ _ _ q]) (fun b => rfl) aa a4 ⟨?_, fun i q r => ?_⟩, ⟨fun a b q => by rw [gg_ug_ne _ _ _ _ _ _ (by omega), gg_ua_ne _ _ _ _ _ _ (by omega)], fun a b q => rfl⟩⟩
      · rw [gg_ug_eq, a42, hw]
      · rw [a42] at r
        rw [a3, ga_ug_ne _ _ _ _ _ _ (by omega)]
        by_cases e : i = S 4 2
        · subst e
          rw [ga_ua_eq, if_pos rfl, wr_id hc]
        · rw [ga_ua_ni _ _ _ _ _ hb.1 q e, if_neg e]
          exact ex i q (by omega)
  · rw [if_neg h1]
    simp (disch := first | with_reducible assumption | omega | exact ga_in _ _ _ | exact gg_in _ _ _ | (unfold InR; omega) | (unfold InL; omega) | (simp only [shC_71, shC_72, shC_73, shC_74, shC_75, shC_76, shC_77, shC_78, shC_79, shL_72, shL_73, shL_74, shL_75, shL_76, shL_77, shL_78, shL_79]; first | done | omega)) only [q143_0, q143_1, q143_2, q143_4, q143_7, q143_10, q143_11, q143_14, q143_15, q143_16, q143_19, q143_22, q143_25, q143_26, q143_29, q143_30, q143_31, q143_34, q143_35, q143_38, q143_39, q143_40, q143_41, q143_42, q143_45, q143_46, q143_47, q143_50, q143_51, q143_54, shC_71, shC_72, shC_73, shC_74, shC_75, shC_76, shC_77, shC_78, shC_79, shL_72, shL_73, shL_74, shL_75, shL_76, shL_77, shL_78, shL_79, shR_71_0, shR_71_1, shR_71_2, shR_71_3, shR_71_4, shR_71_5, shR_71_8, shR_71_15, k116, h1, k118, pushR_I, pushR_L, pushR_R, pushR_V, InR_gg, InR_ga, InR_wr, InL_gl, InR_b, b01, b01_0, if_true, if_false, not_true_eq_false, not_false_eq_true, and_true, true_and, and_self, Sum.inl.injEq, one0, Bool.false_eq_true]
    exact MO_bad h
theorem o144 (h : MR σ S) (hS : SOK S) : CalE (d + 20) 144 [.inr (.inr (.inl 71))] σ (OPM σ (fClear S)) := by
  obtain ⟨et, ex⟩ := h.2.2.2.2.1
  refine Cal_ex (ls := [.inr (.inr (.inl 71)), aU]) rfl mna_144 mml_144 mhl_144 rfl rfl ?_
  simp (disch := first | with_reducible assumption | omega | exact ga_in _ _ _ | exact gg_in _ _ _ | (unfold InR; omega) | (unfold InL; omega) | (simp only [shC_71, shC_72, shC_73, shC_74, shC_75, shC_76, shC_77, shC_78, shC_79, shL_72, shL_73, shL_74, shL_75, shL_76, shL_77, shL_78, shL_79]; first | done | omega)) only [q144_0, q144_1, q144_4, q144_5, q144_6, q144_7, q144_10, q144_11, shC_71, shC_72, shC_73, shC_74, shC_75, shC_76, shC_77, shC_78, shC_79, shL_72, shL_73, shL_74, shL_75, shL_76, shL_77, shL_78, shL_79, shR_71_0, shR_71_1, shR_71_2, shR_71_3, shR_71_4, shR_71_5, shR_71_8, shR_71_15, pushR_I, pushR_L, pushR_R, pushR_V, InR_gg, InR_ga, InR_wr, InL_gl, InR_b, b01, b01_0, if_true, if_false, not_true_eq_false, not_false_eq_true, and_true, true_and, and_self, Sum.inl.injEq, one0, Bool.false_eq_true]
  rw [et]
  have a42 : set4 S 2 0 4 2 = 0 := by unfold set4; rw [if_pos ⟨rfl, rfl⟩]
  have aa : ∀ a, a < 3 → set4 S 2 0 a = S a := fun a q => by funext x; unfold set4; rw [if_neg (by omega)]
  have a4 : ∀ x, ¬ x = 2 → set4 S 2 0 4 x = S 4 x := fun x q => by unfold set4; rw [if_neg (by omega)]
  refine ⟨rfl, MR_text (S' := set4 S 2 0) h (fun a b q r => by rw [gg_ug_ne _ _ _ _ _ _ r]) (fun b => rfl) aa a4 ⟨?_, fun i q r => ?_⟩, ⟨fun a b q => by rw [gg_ug_ne _ _ _ _ _ _ (by omega)], fun a b q => rfl⟩⟩
  · exact (gg_ug_eq _ _ _ _).trans a42.symm
  · rw [a42] at r
    omega
def dropM (σ : SG) : SG := ua (mR σ 72 117 91 (fun j => ga σ 72 (130 + (j : Int)))) 72 116 7
theorem l157 (d : Nat) : ∀ (n i : Nat), i + n = 91 → Wp none (d + 1) 157 14 [.inr (.inr (.inl 71)), .inl (i : Int)] [] (mR σ 72 117 i (fun j => ga σ 72 (130 + (j : Int)))) Q = Wp none (d + 1) 157 45 [.inr (.inr (.inl 71)), .inl 91] [] (mR σ 72 117 91 (fun j => ga σ 72 (130 + (j : Int)))) Q := by
  intro n
  induction n with
  | zero =>
    intro i hi
    have e : i = 91 := by omega
    subst e
    have e3 : ((91 : Nat) : Int) = 91 := rfl
    simp (disch := first | with_reducible assumption | omega | exact ga_in _ _ _ | exact gg_in _ _ _ | (unfold InR; omega) | (unfold InL; omega) | (simp only [shC_71, shC_72, shC_73, shC_74, shC_75, shC_76, shC_77, shC_78, shC_79, shL_72, shL_73, shL_74, shL_75, shL_76, shL_77, shL_78, shL_79]; first | done | omega)) only [q157_14, q157_15, q157_17, e3, Int.le_refl, pushR_I, pushR_L, pushR_R, pushR_V, InR_gg, InR_ga, InR_wr, InL_gl, InR_b, b01, b01_0, if_true, if_false, not_true_eq_false, not_false_eq_true, and_true, true_and, and_self, Sum.inl.injEq, one0, Bool.false_eq_true]
  | succ n ih =>
    intro i hi
    have e : ¬ (91 : Int) ≤ (i : Int) := by omega
    have c221 : ((221 : Nat) : Int) = 221 := rfl
    have er : ga (mR σ 72 117 i (fun j => ga σ 72 (130 + (j : Int)))) 72 (130 + (i : Int)) = ga σ 72 (130 + (i : Int)) := by rw [ga_mR _ _ _ _ _ _ (by omega), if_pos rfl, if_neg (by omega)]
    simp (disch := first | with_reducible assumption | omega | exact ga_in _ _ _ | exact gg_in _ _ _ | (unfold InR; omega) | (unfold InL; omega) | (simp only [shC_71, shC_72, shC_73, shC_74, shC_75, shC_76, shC_77, shC_78, shC_79, shL_72, shL_73, shL_74, shL_75, shL_76, shL_77, shL_78, shL_79]; first | done | omega)) only [q157_14, q157_15, q157_17, q157_20, q157_21, q157_24, q157_26, q157_27, q157_28, q157_29, q157_32, q157_35, q157_36, q157_37, q157_38, q157_39, shC_71, shC_72, shC_73, shC_74, shC_75, shC_76, shC_77, shC_78, shC_79, shL_72, shL_73, shL_74, shL_75, shL_76, shL_77, shL_78, shL_79, shR_71_0, shR_71_1, shR_71_2, shR_71_3, shR_71_4, shR_71_5, shR_71_8, shR_71_15, c221, e, er, pushR_I, pushR_L, pushR_R, pushR_V, InR_gg, InR_ga, InR_wr, InL_gl, InR_b, b01, b01_0, if_true, if_false, not_true_eq_false, not_false_eq_true, and_true, true_and, and_self, Sum.inl.injEq, one0, Bool.false_eq_true]
    rw [q157_42, mR_step (b := 117) (i := i) (g := fun j => ga σ 72 (130 + (j : Int))) σ (by omega) rfl]
    exact ih (i + 1) (by omega)
def putM (σ : SG) : SG := ua (mR σ 72 (117 + 13 * (ga σ 72 116).toNat) 13 (fun x => ga σ 72 (0 + (x : Int)))) 72 116 (ga σ 72 116 + 1)
theorem l157b (h0 : 0 ≤ ga σ 72 116) (h8 : ga σ 72 116 < 8) {v : AV} : Wp none (d + 1) 157 56 [.inr (.inr (.inl 71)), v] [] σ Q = Q aU (putM σ) := by
  have c221 : ((221 : Nat) : Int) = 221 := rfl
  have e1 : (117 : Int) + 13 * ga σ 72 116 = ((117 + 13 * (ga σ 72 116).toNat : Nat) : Int) := by omega
  have K1 : ∀ K, CalK (d + 1) 136 [.inr (.inr (.inl 72)), .inl 0, .inr (.inr (.inl 72)), .inl (117 + 13 * ga σ 72 116), .inl 13] σ K = K aU (mR σ 72 (117 + 13 * (ga σ 72 116).toNat) 13 (fun x => ga σ 72 (0 + (x : Int)))) := fun K => by
    rw [e1]
    exact k136 (f := 72) (t := 72) (i := 0) (j := 117 + 13 * (ga σ 72 116).toNat) (N := 13) shC_72 shC_72 (by rw [shL_72]; omega) (by rw [shL_72]; omega) (Or.inr (by omega))
  have e2 : ga (mR σ 72 (117 + 13 * (ga σ 72 116).toNat) 13 (fun x => ga σ 72 (0 + (x : Int)))) 72 116 = ga σ 72 116 := by rw [ga_mR _ _ _ _ _ _ (by omega), if_pos rfl, if_neg (by omega)]
  simp (disch := first | with_reducible assumption | omega | exact ga_in _ _ _ | exact gg_in _ _ _ | (unfold InR; omega) | (unfold InL; omega) | (simp only [shC_71, shC_72, shC_73, shC_74, shC_75, shC_76, shC_77, shC_78, shC_79, shL_72, shL_73, shL_74, shL_75, shL_76, shL_77, shL_78, shL_79]; first | done | omega)) only [q157_56, q157_57, q157_60, q157_61, q157_62, q157_65, q157_67, q157_69, q157_70, q157_73, q157_75, q157_76, q157_77, q157_78, q157_80, q157_83, q157_84, q157_87, q157_89, q157_90, q157_91, q157_92, q157_93, q157_94, shC_71, shC_72, shC_73, shC_74, shC_75, shC_76, shC_77, shC_78, shC_79, shL_72, shL_73, shL_74, shL_75, shL_76, shL_77, shL_78, shL_79, shR_71_0, shR_71_1, shR_71_2, shR_71_3, shR_71_4, shR_71_5, shR_71_8, shR_71_15, c221, K1, e2, pushR_I, pushR_L, pushR_R, pushR_V, InR_gg, InR_ga, InR_wr, InL_gl, InR_b, b01, b01_0, if_true, if_false, not_true_eq_false, not_false_eq_true, and_true, true_and, and_self, Sum.inl.injEq, one0, Bool.false_eq_true]
  rfl
def notM (σ : SG) : SG := if ga σ 72 116 = 8 then putM (dropM σ) else putM σ
theorem dropM_116 (σ : SG) : ga (dropM σ) 72 116 = 7 := by unfold dropM; rw [ga_ua_eq]; rfl
theorem m157 (h0 : 0 ≤ ga σ 72 116 ∧ ga σ 72 116 ≤ 8) : Cal (d + 2) 157 [.inr (.inr (.inl 71))] σ aU (notM σ) := by
  have c221 : ((221 : Nat) : Int) = 221 := rfl
  refine Cal_in (ls := [.inr (.inr (.inl 71)), aU]) rfl mna_157 mml_157 mhl_157 rfl rfl ?_
  unfold notM
  by_cases c : ga σ 72 116 = 8
  · have hl := l157 (σ := σ) (Q := fun r1 σ1 => r1 = aU ∧ σ1 = putM (dropM σ)) d 91 0 (by omega)
    rw [mR_0] at hl
    have e2 : ga (mR σ 72 117 91 (fun j => ga σ 72 (130 + (j : Int)))) 72 116 = 8 := by rw [ga_mR _ _ _ _ _ _ (by omega), if_pos rfl, if_neg (by omega), c]
    have e3 : (8 : Int) - 1 = 7 := rfl
    simp (disch := first | with_reducible assumption | omega | exact ga_in _ _ _ | exact gg_in _ _ _ | (unfold InR; omega) | (unfold InL; omega) | (simp only [shC_71, shC_72, shC_73, shC_74, shC_75, shC_76, shC_77, shC_78, shC_79, shL_72, shL_73, shL_74, shL_75, shL_76, shL_77, shL_78, shL_79]; first | done | omega)) only [q157_0, q157_1, q157_4, q157_6, q157_7, q157_9, q157_12, q157_13, shC_71, shC_72, shC_73, shC_74, shC_75, shC_76, shC_77, shC_78, shC_79, shL_72, shL_73, shL_74, shL_75, shL_76, shL_77, shL_78, shL_79, shR_71_0, shR_71_1, shR_71_2, shR_71_3, shR_71_4, shR_71_5, shR_71_8, shR_71_15, c221, c, pushR_I, pushR_L, pushR_R, pushR_V, InR_gg, InR_ga, InR_wr, InL_gl, InR_b, b01, b01_0, if_true, if_false, not_true_eq_false, not_false_eq_true, and_true, true_and, and_self, Sum.inl.injEq, one0, Bool.false_eq_true]
    refine hl.mpr ?_
    simp (disch := first | with_reducible assumption | omega | exact ga_in _ _ _ | exact gg_in _ _ _ | (unfold InR; omega) | (unfold InL; omega) | (simp only [shC_71, shC_72, shC_73, shC_74, shC_75, shC_76, shC_77, shC_78, shC_79, shL_72, shL_73, shL_74, shL_75, shL_76, shL_77, shL_78, shL_79]; first | done | omega)) only [q157_45, q157_46, q157_49, q157_51, q157_52, q157_53, q157_54, q157_55, shC_71, shC_72, shC_73, shC_74, shC_75, shC_76, shC_77, shC_78, shC_79, shL_72, shL_73, shL_74, shL_75, shL_76, shL_77, shL_78, shL_79, shR_71_0, shR_71_1, shR_71_2, shR_71_3, shR_71_4, shR_71_5, shR_71_8, shR_71_15, c221, e2, e3, pushR_I, pushR_L, pushR_R, pushR_V, InR_gg, InR_ga, InR_wr, InL_gl, InR_b, b01, b01_0, if_true, if_false, not_true_eq_false, not_false_eq_true, and_true, true_and, and_self, Sum.inl.injEq, one0, Bool.false_eq_true]
    change Wp none (d + 1) 157 56 _ [] (dropM σ) _
    rw [l157b (by rw [dropM_116]; omega) (by rw [dropM_116]; omega)]
    exact ⟨rfl, rfl⟩
  · simp (disch := first | with_reducible assumption | omega | exact ga_in _ _ _ | exact gg_in _ _ _ | (unfold InR; omega) | (unfold InL; omega) | (simp only [shC_71, shC_72, shC_73, shC_74, shC_75, shC_76, shC_77, shC_78, shC_79, shL_72, shL_73, shL_74, shL_75, shL_76, shL_77, shL_78, shL_79]; first | done | omega)) only [q157_0, q157_1, q157_4, q157_6, q157_7, q157_9, q157_12, q157_13, shC_71, shC_72, shC_73, shC_74, shC_75, shC_76, shC_77, shC_78, shC_79, shL_72, shL_73, shL_74, shL_75, shL_76, shL_77, shL_78, shL_79, shR_71_0, shR_71_1, shR_71_2, shR_71_3, shR_71_4, shR_71_5, shR_71_8, shR_71_15, c221, c, pushR_I, pushR_L, pushR_R, pushR_V, InR_gg, InR_ga, InR_wr, InL_gl, InR_b, b01, b01_0, if_true, if_false, not_true_eq_false, not_false_eq_true, and_true, true_and, and_self, Sum.inl.injEq, one0, Bool.false_eq_true]
    rw [l157b h0.1 (by omega)]
    exact ⟨rfl, rfl⟩
theorem k157 (h0 : 0 ≤ ga σ 72 116 ∧ ga σ 72 116 ≤ 8) : CalK (d + 2) 157 [.inr (.inr (.inl 71))] σ K = K aU (notM σ) := CalK_eq (m157 h0)
theorem RW_put (h : RW σ 72 221 g) (hg : GOK g) (h8 : g 116 < 8) : RW (putM σ) 72 221 (rPut g) := by
  have e116 := h 116 (by omega) (by omega)
  have g9 := hg.2.2.2.2.2.2.2.2.1
  intro i h0 h1
  unfold putM rPut
  rw [e116]
  by_cases c : i = 116
  · subst c
    rw [ga_ua_eq, if_neg (by omega), if_pos rfl, wr_id ⟨by omega, by omega⟩]
  · rw [ga_ua_ni _ _ _ _ _ (by omega) h0 c, if_neg c, ga_mR _ _ _ _ _ _ h0, if_pos rfl]
    by_cases c2 : 117 + 13 * g 116 ≤ i ∧ i < 130 + 13 * g 116
    · rw [if_pos ⟨by omega, by omega⟩, if_pos c2, wr_id (ga_in _ _ _), show (0 + ((i.toNat - (117 + 13 * (g 116).toNat) : Nat) : Int)) = i - (117 + 13 * g 116) by omega]
      exact h _ (by omega) (by omega)
    · rw [if_neg (by omega), if_neg c2]
      exact h i h0 h1
theorem RW_drop (h : RW σ 72 221 g) : RW (dropM σ) 72 221 (rDrop g) := by
  intro i h0 h1
  unfold dropM rDrop
  by_cases c : i = 116
  · subst c
    rw [ga_ua_eq, if_neg (by omega), if_pos rfl]
    rfl
  · rw [ga_ua_ni _ _ _ _ _ (by omega) h0 c, if_neg c, ga_mR _ _ _ _ _ _ h0, if_pos rfl]
    by_cases c2 : 117 ≤ i ∧ i < 208
    · rw [if_pos ⟨by omega, by omega⟩, if_pos c2, wr_id (ga_in _ _ _), show (130 + ((i.toNat - 117 : Nat) : Int)) = i + 13 by omega]
      exact h _ (by omega) (by omega)
    · rw [if_neg (by omega), if_neg c2]
      exact h i h0 h1
theorem RW_rem (h : RW σ 72 221 g) (hg : GOK g) : RW (notM σ) 72 221 (rRem g) := by
  have e116 := h 116 (by omega) (by omega)
  have g9 := hg.2.2.2.2.2.2.2.2.1
  unfold notM rRem
  rw [e116]
  by_cases c : g 116 = 8
  · have d116 : rDrop g 116 = 7 := by unfold rDrop; rw [if_neg (by omega), if_pos rfl]
    rw [if_pos c, if_pos (by omega)]
    exact RW_put (RW_drop h) (GOK_drop hg c) (by rw [d116]; omega)
  · rw [if_neg c, if_neg (by omega)]
    exact RW_put h hg (by omega)
theorem not_one : ONE 72 σ (notM σ) := by
  unfold notM putM dropM
  split
  · exact ONE_ua (ONE_mR (ONE_ua (ONE_mR (ONE_refl 72 σ))))
  · exact ONE_ua (ONE_mR (ONE_refl 72 σ))
theorem say_one {l o : Int} : ONE m σ (sayM σ m l o) := ONE_ua (ONE_ua (ONE_refl m σ))
theorem day_one : ONE m σ (dayM σ m) := ONE_ua (ONE_mR (ONE_refl m σ))
theorem l158 {N : Int} (hN : N ≤ 60) : ∀ (n i : Nat) (g : Int → Int) (τ : SG), (i : Int) + n = N → RW τ 72 221 g → GOK g → ONE 72 σ τ →
    (∀ υ v, ONE 72 σ υ → RW υ 72 221 (rDays n g) → GOK (rDays n g) → Wp none (d + 19) 158 51 [.inr (.inr (.inl 71)), .inl N, v] [] υ Q) →
    Wp none (d + 19) 158 21 [.inr (.inr (.inl 71)), .inl N, .inl (i : Int)] [] τ Q := by
  intro n
  induction n with
  | zero =>
    intro i g τ hi hr hg ho hq
    have e : N ≤ (i : Int) := by omega
    simp (disch := first | with_reducible assumption | omega | exact ga_in _ _ _ | exact gg_in _ _ _ | (unfold InR; omega) | (unfold InL; omega) | (simp only [shC_71, shC_72, shC_73, shC_74, shC_75, shC_76, shC_77, shC_78, shC_79, shL_72, shL_73, shL_74, shL_75, shL_76, shL_77, shL_78, shL_79]; first | done | omega)) only [q158_21, q158_22, q158_23, e, pushR_I, pushR_L, pushR_R, pushR_V, InR_gg, InR_ga, InR_wr, InL_gl, InR_b, b01, b01_0, if_true, if_false, not_true_eq_false, not_false_eq_true, and_true, true_and, and_self, Sum.inl.injEq, one0, Bool.false_eq_true]
    exact hq τ _ ho hr hg
  | succ n ih =>
    intro i g τ hi hr hg ho hq
    have e : ¬ N ≤ (i : Int) := by omega
    have c221 : ((221 : Nat) : Int) = 221 := rfl
    have e0 : ga τ 72 0 = g 0 := hr 0 (by omega) (by omega)
    simp only [rDays] at hq
    by_cases c : 9999 ≤ g 0
    · have c' : 9999 ≤ ga τ 72 0 := by omega
      rw [if_pos c] at hq
      simp (disch := first | with_reducible assumption | omega | exact ga_in _ _ _ | exact gg_in _ _ _ | (unfold InR; omega) | (unfold InL; omega) | (simp only [shC_71, shC_72, shC_73, shC_74, shC_75, shC_76, shC_77, shC_78, shC_79, shL_72, shL_73, shL_74, shL_75, shL_76, shL_77, shL_78, shL_79]; first | done | omega)) only [q158_21, q158_22, q158_23, q158_26, q158_27, q158_30, q158_31, q158_32, q158_35, q158_38, q158_39, q158_42, q158_45, shC_71, shC_72, shC_73, shC_74, shC_75, shC_76, shC_77, shC_78, shC_79, shL_72, shL_73, shL_74, shL_75, shL_76, shL_77, shL_78, shL_79, shR_71_0, shR_71_1, shR_71_2, shR_71_3, shR_71_4, shR_71_5, shR_71_8, shR_71_15, c221, e, c', pushR_I, pushR_L, pushR_R, pushR_V, InR_gg, InR_ga, InR_wr, InL_gl, InR_b, b01, b01_0, if_true, if_false, not_true_eq_false, not_false_eq_true, and_true, true_and, and_self, Sum.inl.injEq, one0, Bool.false_eq_true]
      exact hq τ _ ho hr hg
    · have c' : ¬ 9999 ≤ ga τ 72 0 := by omega
      rw [if_neg c] at hq
      simp (disch := first | with_reducible assumption | omega | exact ga_in _ _ _ | exact gg_in _ _ _ | (unfold InR; omega) | (unfold InL; omega) | (simp only [shC_71, shC_72, shC_73, shC_74, shC_75, shC_76, shC_77, shC_78, shC_79, shL_72, shL_73, shL_74, shL_75, shL_76, shL_77, shL_78, shL_79]; first | done | omega)) only [q158_21, q158_22, q158_23, q158_26, q158_27, q158_30, q158_31, q158_32, q158_35, q158_38, q158_39, q158_42, q158_45, shC_71, shC_72, shC_73, shC_74, shC_75, shC_76, shC_77, shC_78, shC_79, shL_72, shL_73, shL_74, shL_75, shL_76, shL_77, shL_78, shL_79, shR_71_0, shR_71_1, shR_71_2, shR_71_3, shR_71_4, shR_71_5, shR_71_8, shR_71_15, c221, e, c', k133 M72, pushR_I, pushR_L, pushR_R, pushR_V, InR_gg, InR_ga, InR_wr, InL_gl, InR_b, b01, b01_0, if_true, if_false, not_true_eq_false, not_false_eq_true, and_true, true_and, and_self, Sum.inl.injEq, one0, Bool.false_eq_true]
      rw [q158_48]
      have g3 := hg.2.2.1
      exact ih (i + 1) (rDay g) _ (by omega) (RW_day hr (by omega) (by omega)) (GOK_day hg (by omega)) (ONE_trans ho day_one) hq
theorem o158 (h : MR σ S) (hS : SOK S) {n : Int} (hn : InR n) : CalE (d + 20) 158 [.inr (.inr (.inl 71)), .inl n] σ (OPM σ (fDays S n)) := by
  have e116 : ga σ 72 116 = S 0 116 := h.1 116 (by omega) (by omega)
  have g9 := hS.1.2.2.2.2.2.2.2.2.1
  refine Cal_ex (ls := [.inr (.inr (.inl 71)), .inl n, aU]) rfl mna_158 mml_158 mhl_158 rfl rfl ?_
  unfold fDays
  by_cases h1 : 1 ≤ n ∧ n ≤ 60
  · rw [if_pos h1]
    simp (disch := first | with_reducible assumption | omega | exact ga_in _ _ _ | exact gg_in _ _ _ | (unfold InR; omega) | (unfold InL; omega) | (simp only [shC_71, shC_72, shC_73, shC_74, shC_75, shC_76, shC_77, shC_78, shC_79, shL_72, shL_73, shL_74, shL_75, shL_76, shL_77, shL_78, shL_79]; first | done | omega)) only [q158_0, q158_1, q158_2, q158_4, q158_7, q158_10, q158_11, q158_14, q158_15, q158_16, q158_19, q158_20, shC_71, shC_72, shC_73, shC_74, shC_75, shC_76, shC_77, shC_78, shC_79, shL_72, shL_73, shL_74, shL_75, shL_76, shL_77, shL_78, shL_79, shR_71_0, shR_71_1, shR_71_2, shR_71_3, shR_71_4, shR_71_5, shR_71_8, shR_71_15, k116, h1, k157 (d := d + 17) (σ := σ) (by omega), pushR_I, pushR_L, pushR_R, pushR_V, InR_gg, InR_ga, InR_wr, InL_gl, InR_b, b01, b01_0, if_true, if_false, not_true_eq_false, not_false_eq_true, and_true, true_and, and_self, Sum.inl.injEq, one0, Bool.false_eq_true]
    refine l158 (d := d) (σ := σ) h1.2 n.toNat 0 (rRem (S 0)) (notM σ) (by omega) (RW_rem h.1 hS.1) (GOK_rem hS.1 hS.2.2.2.1.1) not_one (fun υ v ho hr hg => ?_)
    have e28 : ga υ 72 28 = rDays n.toNat (rRem (S 0)) 28 := hr 28 (by omega) (by omega)
    have g28 := hg.2.1
    have hb := hotG_b hg
    simp (disch := first | with_reducible assumption | omega | exact ga_in _ _ _ | exact gg_in _ _ _ | (unfold InR; omega) | (unfold InL; omega) | (simp only [shC_71, shC_72, shC_73, shC_74, shC_75, shC_76, shC_77, shC_78, shC_79, shL_72, shL_73, shL_74, shL_75, shL_76, shL_77, shL_78, shL_79]; first | done | omega)) only [q158_51, q158_52, q158_55, q158_58, shC_71, shC_72, shC_73, shC_74, shC_75, shC_76, shC_77, shC_78, shC_79, shL_72, shL_73, shL_74, shL_75, shL_76, shL_77, shL_78, shL_79, shR_71_0, shR_71_1, shR_71_2, shR_71_3, shR_71_4, shR_71_5, shR_71_8, shR_71_15, k134 (σ := υ) M72 (by omega), RW_hot hr (by omega) hg, pushR_I, pushR_L, pushR_R, pushR_V, InR_gg, InR_ga, InR_wr, InL_gl, InR_b, b01, b01_0, if_true, if_false, not_true_eq_false, not_false_eq_true, and_true, true_and, and_self, Sum.inl.injEq, one0, Bool.false_eq_true]
    exact MO_row h hr ho
  · rw [if_neg h1]
    simp (disch := first | with_reducible assumption | omega | exact ga_in _ _ _ | exact gg_in _ _ _ | (unfold InR; omega) | (unfold InL; omega) | (simp only [shC_71, shC_72, shC_73, shC_74, shC_75, shC_76, shC_77, shC_78, shC_79, shL_72, shL_73, shL_74, shL_75, shL_76, shL_77, shL_78, shL_79]; first | done | omega)) only [q158_0, q158_1, q158_2, q158_4, q158_7, q158_10, q158_11, q158_14, q158_15, q158_16, q158_19, q158_20, shC_71, shC_72, shC_73, shC_74, shC_75, shC_76, shC_77, shC_78, shC_79, shL_72, shL_73, shL_74, shL_75, shL_76, shL_77, shL_78, shL_79, shR_71_0, shR_71_1, shR_71_2, shR_71_3, shR_71_4, shR_71_5, shR_71_8, shR_71_15, k116, h1, k118, pushR_I, pushR_L, pushR_R, pushR_V, InR_gg, InR_ga, InR_wr, InL_gl, InR_b, b01, b01_0, if_true, if_false, not_true_eq_false, not_false_eq_true, and_true, true_and, and_self, Sum.inl.injEq, one0, Bool.false_eq_true]
    exact MO_bad h
end MOPS
