-- a town that becomes as another, days, what may be undone
section CHG2
variable {d : Nat} {σ : SG} {K : AV → SG → Prop} {Q : AV → SG → Prop} {t : Nat}
/-- days that go by, to 9999 -/
def daysT (t : Nat) : Nat → SG → SG
  | 0, σ => σ
  | n + 1, σ => if 9999 ≤ gg σ t 2 then σ else daysT t n (dayT σ t)
theorem dayT_1 (σ : SG) (t : Nat) : gg (dayT σ t) t 1 = gg σ t 1 := by
  unfold dayT
  rw [gg_ug_ne _ _ _ _ _ _ (by omega), gg_mR, if_neg (by omega)]
theorem l42 (hT : isT t) : ∀ (n i : Nat) (σ : SG) (N : Int), (i : Int) + n = N → N ≤ 1000 → 0 ≤ gg σ t 1 → gg σ t 1 ≤ 5 → Wp none (d + 2) 42 2 [.inr (.inr (.inl t)), .inl N, .inl (i : Int)] [] σ Q = Q aU (daysT t n σ) := by
  obtain ⟨f0, f3, f4, f5, f6, f7, f8, f9, f10, f11⟩ := isT_f hT
  intro n
  induction n with
  | zero =>
    intro i σ N h hN h0 h5
    have e : N = (i : Int) := by omega
    subst e
    simp (disch := first | with_reducible assumption | omega | exact ga_in _ _ _ | exact gg_in _ _ _ | (unfold InR; omega) | (unfold InL; omega)) only [q42_2, q42_3, q42_4, q42_27, Int.le_refl, daysT, pushR_I, pushR_L, pushR_R, pushR_V, InR_gg, InR_ga, InR_wr, InL_gl, InR_b, b01, b01_0, if_true, if_false, not_true_eq_false, not_false_eq_true, and_true, true_and, and_self, Sum.inl.injEq, one0, Bool.false_eq_true]
  | succ n ih =>
    intro i σ N h hN h0 h5
    have e : ¬ N ≤ (i : Int) := by omega
    by_cases hc : 9999 ≤ gg σ t 2
    · simp (disch := first | with_reducible assumption | omega | exact ga_in _ _ _ | exact gg_in _ _ _ | (unfold InR; omega) | (unfold InL; omega)) only [q42_2, q42_3, q42_4, q42_7, q42_8, q42_11, q42_14, q42_17, q42_18, q42_21, q42_27, f0, e, hc, daysT, pushR_I, pushR_L, pushR_R, pushR_V, InR_gg, InR_ga, InR_wr, InL_gl, InR_b, b01, b01_0, if_true, if_false, not_true_eq_false, not_false_eq_true, and_true, true_and, and_self, Sum.inl.injEq, one0, Bool.false_eq_true]
    · simp (disch := first | with_reducible assumption | omega | exact ga_in _ _ _ | exact gg_in _ _ _ | (unfold InR; omega) | (unfold InL; omega)) only [q42_2, q42_3, q42_4, q42_7, q42_8, q42_11, q42_14, q42_17, q42_18, q42_21, f0, e, hc, k41 hT h5 h0, pushR_I, pushR_L, pushR_R, pushR_V, InR_gg, InR_ga, InR_wr, InL_gl, InR_b, b01, b01_0, if_true, if_false, not_true_eq_false, not_false_eq_true, and_true, true_and, and_self, Sum.inl.injEq, one0, Bool.false_eq_true]
      rw [q42_24]
      refine (ih (i + 1) (dayT σ t) N (by omega) hN (by rw [dayT_1]; exact h0) (by rw [dayT_1]; exact h5)).trans ?_
      simp only [daysT, hc, if_false]
theorem m42 (hT : isT t) {n : Int} (hn : 0 ≤ n ∧ n ≤ 1000) (h0 : 0 ≤ gg σ t 1) (h5 : gg σ t 1 ≤ 5) : Cal (d + 3) 42 [.inr (.inr (.inl t)), .inl n] σ aU (daysT t n.toNat σ) := by
  refine Cal_in (ls := [.inr (.inr (.inl t)), .inl n, aU]) rfl mna_42 mml_42 mhl_42 rfl rfl ?_
  simp (disch := first | with_reducible assumption | omega | exact ga_in _ _ _ | exact gg_in _ _ _ | (unfold InR; omega) | (unfold InL; omega)) only [q42_0, q42_1, pushR_I, pushR_L, pushR_R, pushR_V, InR_gg, InR_ga, InR_wr, InL_gl, InR_b, b01, b01_0, if_true, if_false, not_true_eq_false, not_false_eq_true, and_true, true_and, and_self, Sum.inl.injEq, one0, Bool.false_eq_true]
  exact (l42 (d := d) hT n.toNat 0 σ n (by omega) hn.2 h0 h5).mpr ⟨rfl, rfl⟩
theorem k42 (hT : isT t) {n : Int} (hn : 0 ≤ n ∧ n ≤ 1000) (h0 : 0 ≤ gg σ t 1) (h5 : gg σ t 1 ≤ 5) : CalK (d + 3) 42 [.inr (.inr (.inl t)), .inl n] σ K = K aU (daysT t n.toNat σ) := CalK_eq (m42 hT hn h0 h5)
/-- one row more in a table of five or four -/
theorem m27_5 {k : Nat} {a b c e f : Int} (hk : shC k = 4) (rk : shR k 2 = k + 1) (ck : shC (k + 1) = 100) (hw : gg σ k 1 = 5) (h0 : 0 ≤ gg σ k 3) (h1 : gg σ k 3 * 5 + 4 < (shL (k + 1) : Int)) : Cal (d + 2) 27 [.inr (.inr (.inl k)), .inl a, .inl b, .inl c, .inl e, .inl f] σ (.inl (gg σ k 3 + 1))
    (ug (ua (ua (ua (ua (ua σ (k + 1) (gg σ k 3 * 5) a) (k + 1) (gg σ k 3 * 5 + 1) b) (k + 1) (gg σ k 3 * 5 + 2) c) (k + 1) (gg σ k 3 * 5 + 3) e) (k + 1) (gg σ k 3 * 5 + 4) f) k 3 (gg σ k 3 + 1)) := by
  have g := shL_le (k + 1)
  have e4 : ¬ ((5 : Int) ≤ 4) := by omega
  refine Cal_in (ls := [.inr (.inr (.inl k)), .inl a, .inl b, .inl c, .inl e, .inl f, aU]) rfl mna_27 mml_27 mhl_27 rfl rfl ?_
  simp (disch := first | with_reducible assumption | omega | exact ga_in _ _ _ | exact gg_in _ _ _ | (unfold InR; omega) | (unfold InL; omega)) only [q27_0, q27_1, q27_4, q27_5, q27_8, q27_9, q27_11, q27_12, q27_15, q27_17, q27_18, q27_21, q27_22, q27_25, q27_27, q27_28, q27_29, q27_30, q27_33, q27_34, q27_37, q27_39, q27_40, q27_41, q27_42, q27_45, q27_46, q27_49, q27_51, q27_52, q27_53, q27_55, q27_58, q27_59, q27_62, q27_63, q27_66, q27_67, q27_70, q27_72, q27_73, q27_74, q27_76, q27_79, q27_80, q27_81, q27_84, q27_85, q27_86, q27_89, q27_90, q27_93, hk, rk, hw, k90, e4, gg_ug_eq, gg_ug_ne, gg_ua_ne, ga_ug_ne, ga_ua_ne, ga_ua_eq, ga_ua_ni, wr_id, pushR_I, pushR_L, pushR_R, pushR_V, InR_gg, InR_ga, InR_wr, InL_gl, InR_b, b01, b01_0, if_true, if_false, not_true_eq_false, not_false_eq_true, and_true, true_and, and_self, Sum.inl.injEq, one0, Bool.false_eq_true]
  all_goals omega
theorem m27_4 {k : Nat} {a b c e f : Int} (hk : shC k = 4) (rk : shR k 2 = k + 1) (ck : shC (k + 1) = 100) (hw : gg σ k 1 = 4) (h0 : 0 ≤ gg σ k 3) (h1 : gg σ k 3 * 4 + 3 < (shL (k + 1) : Int)) : Cal (d + 2) 27 [.inr (.inr (.inl k)), .inl a, .inl b, .inl c, .inl e, .inl f] σ (.inl (gg σ k 3 + 1))
    (ug (ua (ua (ua (ua σ (k + 1) (gg σ k 3 * 4) a) (k + 1) (gg σ k 3 * 4 + 1) b) (k + 1) (gg σ k 3 * 4 + 2) c) (k + 1) (gg σ k 3 * 4 + 3) e) k 3 (gg σ k 3 + 1)) := by
  have g := shL_le (k + 1)
  have e4 : ((4 : Int) ≤ 4) := by omega
  refine Cal_in (ls := [.inr (.inr (.inl k)), .inl a, .inl b, .inl c, .inl e, .inl f, aU]) rfl mna_27 mml_27 mhl_27 rfl rfl ?_
  simp (disch := first | with_reducible assumption | omega | exact ga_in _ _ _ | exact gg_in _ _ _ | (unfold InR; omega) | (unfold InL; omega)) only [q27_0, q27_1, q27_4, q27_5, q27_8, q27_9, q27_11, q27_12, q27_15, q27_17, q27_18, q27_21, q27_22, q27_25, q27_27, q27_28, q27_29, q27_30, q27_33, q27_34, q27_37, q27_39, q27_40, q27_41, q27_42, q27_45, q27_46, q27_49, q27_51, q27_52, q27_53, q27_55, q27_58, q27_59, q27_62, q27_63, q27_66, q27_67, q27_70, q27_72, q27_73, q27_74, q27_76, q27_79, q27_80, q27_81, q27_84, q27_85, q27_86, q27_89, q27_90, q27_93, hk, rk, hw, k90, e4, gg_ug_eq, gg_ug_ne, gg_ua_ne, ga_ug_ne, ga_ua_ne, ga_ua_eq, ga_ua_ni, wr_id, pushR_I, pushR_L, pushR_R, pushR_V, InR_gg, InR_ga, InR_wr, InL_gl, InR_b, b01, b01_0, if_true, if_false, not_true_eq_false, not_false_eq_true, and_true, true_and, and_self, Sum.inl.injEq, one0, Bool.false_eq_true]
  all_goals omega
end CHG2
