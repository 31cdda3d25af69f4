-- the greatest common divisor, as both reckon it
section GCD
variable {d : Nat} {σ : SG} {K : AV → SG → Prop} {Q : AV → SG → Prop}
theorem cast_mod (a b : Nat) : ((a : Int) % (b : Int)) = ((a % b : Nat) : Int) := rfl
theorem l92 : ∀ (kk a b i : Nat) (v0 v2 w9 w10 : AV), b < 2 ^ kk → i + 2 * kk ≤ 998 → a < 4611686018427387904 → b < 4611686018427387904 → Wp none d 92 9 [v0, aU, v2, aU, .inr (.inl (a : Int)), aU, .inr (.inl (b : Int)), aU, .inl (i : Int), w9, w10] [] σ Q = Q (.inr (.inl (Nat.gcd a b : Int))) σ := by
  intro kk
  induction kk with
  | zero =>
    intro a b i v0 v2 w9 w10 hb hi ha hb2
    have e : b = 0 := by simpa using hb
    subst e
    have e1 : ¬ (1000 : Int) ≤ (i : Int) := by omega
    have e2 : ((0 : Nat) : Int) = 0 := rfl
    simp (disch := first | with_reducible assumption | omega | exact ga_in _ _ _ | exact gg_in _ _ _ | (unfold InR; omega) | (unfold InL; omega) | (simp only [shC_0, shC_1, shC_2, shC_3, shC_4, shC_5, shC_6, shC_7, shC_8, shC_9, shC_10, shC_11, shC_12, shC_13, shC_14, shC_29, shC_58, shC_59, shC_60, shC_61, shC_62, shC_63, shC_64, shC_65, shC_66, shC_67, shC_68, shC_69, shC_70, shL_2, shL_3, shL_4, shL_5, shL_6, shL_8, shL_10, shL_12, shL_14, shL_29, shL_58, shL_60, shL_62, shL_63, shL_65, shL_66, shL_67, shL_68, shL_69, shL_70]; first | done | omega)) only [q92_9, q92_11, q92_14, q92_17, q92_19, q92_20, q92_21, q92_45, q92_47, e1, e2, Nat.gcd_zero_right, pushR_I, pushR_L, pushR_R, pushR_V, InR_gg, InR_ga, InR_wr, InL_gl, InR_b, b01, b01_0, if_true, if_false, not_true_eq_false, not_false_eq_true, and_true, true_and, and_self, Sum.inl.injEq, one0, Bool.false_eq_true]
  | succ kk ih =>
    intro a b i v0 v2 w9 w10 hb hi ha hb2
    have e1 : ¬ (1000 : Int) ≤ (i : Int) := by omega
    have e1' : ¬ (1000 : Int) ≤ (i : Int) + 1 := by omega
    have e2 : ((0 : Nat) : Int) = 0 := rfl
    by_cases h0 : b = 0
    · subst h0
      simp (disch := first | with_reducible assumption | omega | exact ga_in _ _ _ | exact gg_in _ _ _ | (unfold InR; omega) | (unfold InL; omega) | (simp only [shC_0, shC_1, shC_2, shC_3, shC_4, shC_5, shC_6, shC_7, shC_8, shC_9, shC_10, shC_11, shC_12, shC_13, shC_14, shC_29, shC_58, shC_59, shC_60, shC_61, shC_62, shC_63, shC_64, shC_65, shC_66, shC_67, shC_68, shC_69, shC_70, shL_2, shL_3, shL_4, shL_5, shL_6, shL_8, shL_10, shL_12, shL_14, shL_29, shL_58, shL_60, shL_62, shL_63, shL_65, shL_66, shL_67, shL_68, shL_69, shL_70]; first | done | omega)) only [q92_9, q92_11, q92_14, q92_17, q92_19, q92_20, q92_21, q92_45, q92_47, e1, e2, Nat.gcd_zero_right, pushR_I, pushR_L, pushR_R, pushR_V, InR_gg, InR_ga, InR_wr, InL_gl, InR_b, b01, b01_0, if_true, if_false, not_true_eq_false, not_false_eq_true, and_true, true_and, and_self, Sum.inl.injEq, one0, Bool.false_eq_true]
    · have hbp : 0 < b := Nat.pos_of_ne_zero h0
      have hr := Nat.mod_lt a hbp
      have z1 : ¬ ((b : Int) = 0) := by omega
      have z2 : (0 : Int) < (b : Int) := by omega
      have z3 : ¬ ((if (b : Int) = 0 then (0 : Int) else if (0 : Int) < (b : Int) then 1 else -1) = 0) := by rw [if_neg z1, if_pos z2]; decide
      by_cases h1 : a % b = 0
      · have e3 : ((a % b : Nat) : Int) = 0 := by rw [h1]; rfl
        have e4 : Nat.gcd a b = b := by rw [← gcd_step, h1, Nat.gcd_zero_right]
        rw [e4]
        simp (disch := first | with_reducible assumption | omega | exact ga_in _ _ _ | exact gg_in _ _ _ | (unfold InR; omega) | (unfold InL; omega) | (simp only [shC_0, shC_1, shC_2, shC_3, shC_4, shC_5, shC_6, shC_7, shC_8, shC_9, shC_10, shC_11, shC_12, shC_13, shC_14, shC_29, shC_58, shC_59, shC_60, shC_61, shC_62, shC_63, shC_64, shC_65, shC_66, shC_67, shC_68, shC_69, shC_70, shL_2, shL_3, shL_4, shL_5, shL_6, shL_8, shL_10, shL_12, shL_14, shL_29, shL_58, shL_60, shL_62, shL_63, shL_65, shL_66, shL_67, shL_68, shL_69, shL_70]; first | done | omega)) only [q92_9, q92_11, q92_14, q92_17, q92_19, q92_20, q92_21, q92_24, q92_26, q92_28, q92_29, q92_31, q92_33, q92_35, q92_37, q92_39, e1, z1, z2, z3, cast_mod, e3, pushR_I, pushR_L, pushR_R, pushR_V, InR_gg, InR_ga, InR_wr, InL_gl, InR_b, b01, b01_0, if_true, if_false, not_true_eq_false, not_false_eq_true, and_true, true_and, and_self, Sum.inl.injEq, one0, Bool.false_eq_true]
        rw [q92_42]
        simp (disch := first | with_reducible assumption | omega | exact ga_in _ _ _ | exact gg_in _ _ _ | (unfold InR; omega) | (unfold InL; omega) | (simp only [shC_0, shC_1, shC_2, shC_3, shC_4, shC_5, shC_6, shC_7, shC_8, shC_9, shC_10, shC_11, shC_12, shC_13, shC_14, shC_29, shC_58, shC_59, shC_60, shC_61, shC_62, shC_63, shC_64, shC_65, shC_66, shC_67, shC_68, shC_69, shC_70, shL_2, shL_3, shL_4, shL_5, shL_6, shL_8, shL_10, shL_12, shL_14, shL_29, shL_58, shL_60, shL_62, shL_63, shL_65, shL_66, shL_67, shL_68, shL_69, shL_70]; first | done | omega)) only [q92_9, q92_11, q92_14, q92_17, q92_19, q92_20, q92_21, q92_45, q92_47, e1', pushR_I, pushR_L, pushR_R, pushR_V, InR_gg, InR_ga, InR_wr, InL_gl, InR_b, b01, b01_0, if_true, if_false, not_true_eq_false, not_false_eq_true, and_true, true_and, and_self, Sum.inl.injEq, one0, Bool.false_eq_true]
      · have hrp : 0 < a % b := Nat.pos_of_ne_zero h1
        have hr2 := Nat.mod_lt b hrp
        have y1 : ¬ (((a % b : Nat) : Int) = 0) := by omega
        have y2 : (0 : Int) < ((a % b : Nat) : Int) := by omega
        have y3 : ¬ ((if ((a % b : Nat) : Int) = 0 then (0 : Int) else if (0 : Int) < ((a % b : Nat) : Int) then 1 else -1) = 0) := by rw [if_neg y1, if_pos y2]; decide
        have hle : b % (a % b) + (a % b) ≤ b := by
          have h2 := Nat.div_add_mod b (a % b)
          have h3 : 1 ≤ b / (a % b) := Nat.div_pos (Nat.le_of_lt hr) hrp
          have h4 : a % b ≤ (a % b) * (b / (a % b)) := Nat.le_mul_of_pos_right _ h3
          omega
        have hlt : b % (a % b) < 2 ^ kk := by rw [Nat.pow_succ] at hb; omega
        simp (disch := first | with_reducible assumption | omega | exact ga_in _ _ _ | exact gg_in _ _ _ | (unfold InR; omega) | (unfold InL; omega) | (simp only [shC_0, shC_1, shC_2, shC_3, shC_4, shC_5, shC_6, shC_7, shC_8, shC_9, shC_10, shC_11, shC_12, shC_13, shC_14, shC_29, shC_58, shC_59, shC_60, shC_61, shC_62, shC_63, shC_64, shC_65, shC_66, shC_67, shC_68, shC_69, shC_70, shL_2, shL_3, shL_4, shL_5, shL_6, shL_8, shL_10, shL_12, shL_14, shL_29, shL_58, shL_60, shL_62, shL_63, shL_65, shL_66, shL_67, shL_68, shL_69, shL_70]; first | done | omega)) only [q92_9, q92_11, q92_14, q92_17, q92_19, q92_20, q92_21, q92_24, q92_26, q92_28, q92_29, q92_31, q92_33, q92_35, q92_37, q92_39, e1, z1, z2, z3, cast_mod, pushR_I, pushR_L, pushR_R, pushR_V, InR_gg, InR_ga, InR_wr, InL_gl, InR_b, b01, b01_0, if_true, if_false, not_true_eq_false, not_false_eq_true, and_true, true_and, and_self, Sum.inl.injEq, one0, Bool.false_eq_true]
        rw [q92_42]
        simp (disch := first | with_reducible assumption | omega | exact ga_in _ _ _ | exact gg_in _ _ _ | (unfold InR; omega) | (unfold InL; omega) | (simp only [shC_0, shC_1, shC_2, shC_3, shC_4, shC_5, shC_6, shC_7, shC_8, shC_9, shC_10, shC_11, shC_12, shC_13, shC_14, shC_29, shC_58, shC_59, shC_60, shC_61, shC_62, shC_63, shC_64, shC_65, shC_66, shC_67, shC_68, shC_69, shC_70, shL_2, shL_3, shL_4, shL_5, shL_6, shL_8, shL_10, shL_12, shL_14, shL_29, shL_58, shL_60, shL_62, shL_63, shL_65, shL_66, shL_67, shL_68, shL_69, shL_70]; first | done | omega)) only [q92_9, q92_11, q92_14, q92_17, q92_19, q92_20, q92_21, q92_24, q92_26, q92_28, q92_29, q92_31, q92_33, q92_35, q92_37, q92_39, e1', y1, y2, y3, cast_mod, pushR_I, pushR_L, pushR_R, pushR_V, InR_gg, InR_ga, InR_wr, InL_gl, InR_b, b01, b01_0, if_true, if_false, not_true_eq_false, not_false_eq_true, and_true, true_and, and_self, Sum.inl.injEq, one0, Bool.false_eq_true]
        rw [q92_42]
        have e5 : (i : Int) + 1 + 1 = ((i + 2 : Nat) : Int) := by omega
        rw [e5]
        refine (ih (a % b) (b % (a % b)) (i + 2) _ _ _ _ hlt (by omega) (by omega) (by omega)).trans ?_
        rw [gcd_step, gcd_step]
theorem m92 {a b : Nat} (ha : a < 4611686018427387904) (hb : b < 4611686018427387904) : Cal (d + 1) 92 [.inr (.inl (a : Int)), .inr (.inl (b : Int))] σ (.inr (.inl (Nat.gcd a b : Int))) σ := by
  refine Cal_in (ls := [.inr (.inl (a : Int)), aU, .inr (.inl (b : Int)), aU, aU, aU, aU, aU, aU, aU, aU]) rfl mna_92 mml_92 mhl_92 rfl rfl ?_
  simp (disch := first | with_reducible assumption | omega | exact ga_in _ _ _ | exact gg_in _ _ _ | (unfold InR; omega) | (unfold InL; omega) | (simp only [shC_0, shC_1, shC_2, shC_3, shC_4, shC_5, shC_6, shC_7, shC_8, shC_9, shC_10, shC_11, shC_12, shC_13, shC_14, shC_29, shC_58, shC_59, shC_60, shC_61, shC_62, shC_63, shC_64, shC_65, shC_66, shC_67, shC_68, shC_69, shC_70, shL_2, shL_3, shL_4, shL_5, shL_6, shL_8, shL_10, shL_12, shL_14, shL_29, shL_58, shL_60, shL_62, shL_63, shL_65, shL_66, shL_67, shL_68, shL_69, shL_70]; first | done | omega)) only [q92_0, q92_1, q92_3, q92_4, q92_6, q92_7, pushR_I, pushR_L, pushR_R, pushR_V, InR_gg, InR_ga, InR_wr, InL_gl, InR_b, b01, b01_0, if_true, if_false, not_true_eq_false, not_false_eq_true, and_true, true_and, and_self, Sum.inl.injEq, one0, Bool.false_eq_true]
  exact (l92 (d := d) 62 a b 0 _ _ _ _ (by omega) (by omega) ha hb).mpr ⟨rfl, rfl⟩
theorem k92 {a b : Nat} (ha : a < 4611686018427387904) (hb : b < 4611686018427387904) : CalK (d + 1) 92 [.inr (.inl (a : Int)), .inr (.inl (b : Int))] σ K = K (.inr (.inl (Nat.gcd a b : Int))) σ := CalK_eq (m92 ha hb)
theorem l192 : ∀ (n a b : Nat) (v0 v2 w8 w9 : AV), b ≤ n → a < 4611686018427387904 → b < 4611686018427387904 → Wp none d 192 6 [v0, aU, v2, aU, .inr (.inl (a : Int)), aU, .inr (.inl (b : Int)), aU, w8, w9] [] σ Q = Q (.inr (.inl (Nat.gcd a b : Int))) σ := by
  intro n
  induction n with
  | zero =>
    intro a b v0 v2 w8 w9 hb ha hb2
    have e : b = 0 := by omega
    subst e
    have e2 : ((0 : Nat) : Int) = 0 := rfl
    simp (disch := first | with_reducible assumption | omega | exact ga_in _ _ _ | exact gg_in _ _ _ | (unfold InR; omega) | (unfold InL; omega) | (simp only [shC_0, shC_1, shC_2, shC_3, shC_4, shC_5, shC_6, shC_7, shC_8, shC_9, shC_10, shC_11, shC_12, shC_13, shC_14, shC_29, shC_58, shC_59, shC_60, shC_61, shC_62, shC_63, shC_64, shC_65, shC_66, shC_67, shC_68, shC_69, shC_70, shL_2, shL_3, shL_4, shL_5, shL_6, shL_8, shL_10, shL_12, shL_14, shL_29, shL_58, shL_60, shL_62, shL_63, shL_65, shL_66, shL_67, shL_68, shL_69, shL_70]; first | done | omega)) only [q192_6, q192_8, q192_9, q192_10, q192_31, q192_33, e2, Int.le_refl, Nat.gcd_zero_right, pushR_I, pushR_L, pushR_R, pushR_V, InR_gg, InR_ga, InR_wr, InL_gl, InR_b, b01, b01_0, if_true, if_false, not_true_eq_false, not_false_eq_true, and_true, true_and, and_self, Sum.inl.injEq, one0, Bool.false_eq_true]
  | succ n ih =>
    intro a b v0 v2 w8 w9 hb ha hb2
    by_cases h0 : b = 0
    · subst h0
      have e2 : ((0 : Nat) : Int) = 0 := rfl
      simp (disch := first | with_reducible assumption | omega | exact ga_in _ _ _ | exact gg_in _ _ _ | (unfold InR; omega) | (unfold InL; omega) | (simp only [shC_0, shC_1, shC_2, shC_3, shC_4, shC_5, shC_6, shC_7, shC_8, shC_9, shC_10, shC_11, shC_12, shC_13, shC_14, shC_29, shC_58, shC_59, shC_60, shC_61, shC_62, shC_63, shC_64, shC_65, shC_66, shC_67, shC_68, shC_69, shC_70, shL_2, shL_3, shL_4, shL_5, shL_6, shL_8, shL_10, shL_12, shL_14, shL_29, shL_58, shL_60, shL_62, shL_63, shL_65, shL_66, shL_67, shL_68, shL_69, shL_70]; first | done | omega)) only [q192_6, q192_8, q192_9, q192_10, q192_31, q192_33, e2, Int.le_refl, Nat.gcd_zero_right, pushR_I, pushR_L, pushR_R, pushR_V, InR_gg, InR_ga, InR_wr, InL_gl, InR_b, b01, b01_0, if_true, if_false, not_true_eq_false, not_false_eq_true, and_true, true_and, and_self, Sum.inl.injEq, one0, Bool.false_eq_true]
    · have hbp : 0 < b := Nat.pos_of_ne_zero h0
      have hr := Nat.mod_lt a hbp
      have z1 : ¬ ((b : Int) = 0) := by omega
      have z2 : (0 : Int) < (b : Int) := by omega
      have z3 : ¬ ((if (b : Int) = 0 then (0 : Int) else if (0 : Int) < (b : Int) then 1 else -1) ≤ 0) := by rw [if_neg z1, if_pos z2]; decide
      have z4 : ((1 : Int) ≤ 0) = False := eq_false (by decide)
      simp (disch := first | with_reducible assumption | omega | exact ga_in _ _ _ | exact gg_in _ _ _ | (unfold InR; omega) | (unfold InL; omega) | (simp only [shC_0, shC_1, shC_2, shC_3, shC_4, shC_5, shC_6, shC_7, shC_8, shC_9, shC_10, shC_11, shC_12, shC_13, shC_14, shC_29, shC_58, shC_59, shC_60, shC_61, shC_62, shC_63, shC_64, shC_65, shC_66, shC_67, shC_68, shC_69, shC_70, shL_2, shL_3, shL_4, shL_5, shL_6, shL_8, shL_10, shL_12, shL_14, shL_29, shL_58, shL_60, shL_62, shL_63, shL_65, shL_66, shL_67, shL_68, shL_69, shL_70]; first | done | omega)) only [q192_6, q192_8, q192_9, q192_10, q192_13, q192_15, q192_17, q192_18, q192_20, q192_22, q192_24, q192_26, z1, z2, z3, z4, cast_mod, pushR_I, pushR_L, pushR_R, pushR_V, InR_gg, InR_ga, InR_wr, InL_gl, InR_b, b01, b01_0, if_true, if_false, not_true_eq_false, not_false_eq_true, and_true, true_and, and_self, Sum.inl.injEq, one0, Bool.false_eq_true]
      rw [q192_28]
      refine (ih b (a % b) _ _ _ _ (by omega) (by omega) (by omega)).trans ?_
      rw [gcd_step]
theorem m192 {a b : Nat} (ha : a < 4611686018427387904) (hb : b < 4611686018427387904) : Cal (d + 1) 192 [.inr (.inl (a : Int)), .inr (.inl (b : Int))] σ (.inr (.inl (Nat.gcd a b : Int))) σ := by
  refine Cal_in (ls := [.inr (.inl (a : Int)), aU, .inr (.inl (b : Int)), aU, aU, aU, aU, aU, aU, aU]) rfl mna_192 mml_192 mhl_192 rfl rfl ?_
  simp (disch := first | with_reducible assumption | omega | exact ga_in _ _ _ | exact gg_in _ _ _ | (unfold InR; omega) | (unfold InL; omega) | (simp only [shC_0, shC_1, shC_2, shC_3, shC_4, shC_5, shC_6, shC_7, shC_8, shC_9, shC_10, shC_11, shC_12, shC_13, shC_14, shC_29, shC_58, shC_59, shC_60, shC_61, shC_62, shC_63, shC_64, shC_65, shC_66, shC_67, shC_68, shC_69, shC_70, shL_2, shL_3, shL_4, shL_5, shL_6, shL_8, shL_10, shL_12, shL_14, shL_29, shL_58, shL_60, shL_62, shL_63, shL_65, shL_66, shL_67, shL_68, shL_69, shL_70]; first | done | omega)) only [q192_0, q192_1, q192_3, q192_4, pushR_I, pushR_L, pushR_R, pushR_V, InR_gg, InR_ga, InR_wr, InL_gl, InR_b, b01, b01_0, if_true, if_false, not_true_eq_false, not_false_eq_true, and_true, true_and, and_self, Sum.inl.injEq, one0, Bool.false_eq_true]
  exact (l192 (d := d) b a b _ _ _ _ (Nat.le_refl _) ha hb).mpr ⟨rfl, rfl⟩
theorem k192 {a b : Nat} (ha : a < 4611686018427387904) (hb : b < 4611686018427387904) : CalK (d + 1) 192 [.inr (.inl (a : Int)), .inr (.inl (b : Int))] σ K = K (.inr (.inl (Nat.gcd a b : Int))) σ := CalK_eq (m192 ha hb)
end GCD
