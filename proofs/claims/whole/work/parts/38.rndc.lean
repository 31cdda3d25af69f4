-- the round: the class's search
def tkW (σ : SG) (o l : Nat) (k h : Int) : Int := tkI (ga σ 5 (o : Int)) (ltT σ 1 (l : Int) k) h
def heW (σ : SG) (o : Nat) : Int := ga σ 6 (o : Int)
def mxH (σ : SG) (n j : Nat) : Int := mxF (fun l => heI (ga σ 6 (j : Int)) (tkT σ 1 (j : Int) (l : Int))) 0 n (ga σ 6 (j : Int))
def HAf (σ : SG) (n O o : Nat) : Int := sumF (fun j => hot1 (mxH σ n j)) o (O - o)
def EAf (σ : SG) (n O o : Nat) : Int := sumF (fun j => mxH σ n j) o (O - o)
def S64 (a b : Nat) : Prop := (a = 64 ∧ (b = 6 ∨ b = 7)) ∨ (65 ≤ a ∧ a ≤ 69)
def SP (o : Nat) (a b : Nat) : Prop := (a = 65 ∧ o ≤ b) ∨ a = 66 ∨ (a = 64 ∧ (b = 6 ∨ b = 7))
def BR (τ : SG) (B : List Nat × Int × Int) : Prop := gg τ 64 6 = B.2.1 ∧ gg τ 64 7 = B.2.2 ∧ ∀ j, j < B.1.length → ga τ 66 (j : Int) = (B.1.getD j 0 : Int) - 1
theorem hot1_def (h : Int) : (if 20 ≤ h then (1 : Int) else 0) = hot1 h := rfl
theorem hot1_b (h : Int) : 0 ≤ hot1 h ∧ hot1 h ≤ 1 := by unfold hot1; split <;> omega
theorem hot1_mo {h h2 : Int} (hh : h ≤ h2) : hot1 h ≤ hot1 h2 := by unfold hot1; split <;> split <;> omega
theorem heI_mo {h x x2 : Int} (hx : x ≤ x2) : heI h x ≤ heI h x2 := by unfold heI; split <;> split <;> omega
theorem BR_same {τ υ : SG} {B : List Nat × Int × Int} (h : BR τ B) (hs : ∀ a b, a = 64 ∨ a = 66 → gg υ a b = gg τ a b) : BR υ B := by
  obtain ⟨h1, h2, h3⟩ := h
  refine ⟨by rw [hs 64 6 (Or.inl rfl), h1], by rw [hs 64 7 (Or.inl rfl), h2], fun j hj => ?_⟩
  rw [ga_nat, hs 66 j (Or.inr rfl), ← ga_nat, h3 j hj]
section RNDC
variable {d : Nat} {σ : SG} {K : AV → SG → Prop} {Q : AV → SG → Prop}
theorem m24 {o hot heat : Int} (ho : 0 ≤ o ∧ o ≤ 5) (h1 : 0 ≤ hot ∧ hot ≤ 1000) (h2 : 0 ≤ heat ∧ heat ≤ 1000) (h3 : 0 ≤ ga σ 68 o ∧ ga σ 68 o ≤ 1000) (h4 : 0 ≤ ga σ 69 o ∧ ga σ 69 o ≤ 1000) :
    Cal (d + 2) 24 [.inr (.inr (.inl 64)), .inl o, .inl hot, .inl heat] σ (.inl (if hot + ga σ 68 o < gg σ 64 6 ∨ (hot + ga σ 68 o = gg σ 64 6 ∧ heat + ga σ 69 o ≤ gg σ 64 7) then 1 else 0)) σ := by
  refine Cal_in (ls := [.inr (.inr (.inl 64)), .inl o, .inl hot, .inl heat, aU]) rfl mna_24 mml_24 mhl_24 rfl rfl ?_
  by_cases c1 : hot + ga σ 68 o < gg σ 64 6
  · simp (disch := first | with_reducible assumption | omega | exact ga_in _ _ _ | exact gg_in _ _ _ | (unfold InR; omega) | (unfold InL; omega) | (simp only [shC_0, shC_1, shC_2, shC_3, shC_4, shC_5, shC_6, shC_7, shC_8, shC_9, shC_10, shC_11, shC_12, shC_13, shC_14, shC_29, shC_58, shC_59, shC_60, shC_61, shC_62, shC_63, shC_64, shC_65, shC_66, shC_67, shC_68, shC_69, shC_70, shL_2, shL_3, shL_4, shL_5, shL_6, shL_8, shL_10, shL_12, shL_14, shL_29, shL_58, shL_60, shL_62, shL_63, shL_65, shL_66, shL_67, shL_68, shL_69, shL_70]; first | done | omega)) only [q24_0, q24_1, q24_2, q24_5, q24_6, q24_9, q24_10, q24_12, q24_14, q24_15, q24_18, q24_21, q24_23, q24_24, q24_27, q24_30, q24_31, q24_32, q24_35, q24_36, q24_39, q24_40, q24_41, q24_44, q24_47, q24_48, q24_51, q24_52, shC_0, shC_1, shC_2, shC_3, shC_4, shC_5, shC_6, shC_7, shC_8, shC_9, shC_10, shC_11, shC_12, shC_13, shC_14, shC_29, shC_58, shC_59, shC_60, shC_61, shC_62, shC_63, shC_64, shC_65, shC_66, shC_67, shC_68, shC_69, shC_70, shL_2, shL_3, shL_4, shL_5, shL_6, shL_8, shL_10, shL_12, shL_14, shL_29, shL_58, shL_60, shL_62, shL_63, shL_65, shL_66, shL_67, shL_68, shL_69, shL_70, shR_0_0, shR_0_1, shR_0_2, shR_0_3, shR_0_4, shR_0_5, shR_0_6, shR_0_7, shR_1_3, shR_1_4, shR_1_5, shR_1_6, shR_1_7, shR_1_8, shR_1_9, shR_1_10, shR_1_11, shR_7_2, shR_9_2, shR_11_2, shR_13_0, shR_59_0, shR_61_0, shR_61_1, shR_61_2, shR_64_0, shR_64_1, shR_64_2, shR_64_3, shR_64_4, shR_64_5, k89, c1, true_or, pushR_I, pushR_L, pushR_R, pushR_V, InR_gg, InR_ga, InR_wr, InL_gl, InR_b, b01, b01_0, if_true, if_false, not_true_eq_false, not_false_eq_true, and_true, true_and, and_self, Sum.inl.injEq, one0, Bool.false_eq_true]
  · by_cases c2 : hot + ga σ 68 o = gg σ 64 6
    · have c1' : ¬ (gg σ 64 6 < gg σ 64 6) := by omega
      by_cases c3 : heat + ga σ 69 o ≤ gg σ 64 7
      · have c3' : ¬ gg σ 64 7 < heat + ga σ 69 o := by omega
        simp (disch := first | with_reducible assumption | omega | exact ga_in _ _ _ | exact gg_in _ _ _ | (unfold InR; omega) | (unfold InL; omega) | (simp only [shC_0, shC_1, shC_2, shC_3, shC_4, shC_5, shC_6, shC_7, shC_8, shC_9, shC_10, shC_11, shC_12, shC_13, shC_14, shC_29, shC_58, shC_59, shC_60, shC_61, shC_62, shC_63, shC_64, shC_65, shC_66, shC_67, shC_68, shC_69, shC_70, shL_2, shL_3, shL_4, shL_5, shL_6, shL_8, shL_10, shL_12, shL_14, shL_29, shL_58, shL_60, shL_62, shL_63, shL_65, shL_66, shL_67, shL_68, shL_69, shL_70]; first | done | omega)) only [q24_0, q24_1, q24_2, q24_5, q24_6, q24_9, q24_10, q24_12, q24_14, q24_15, q24_18, q24_21, q24_23, q24_24, q24_27, q24_30, q24_31, q24_32, q24_35, q24_36, q24_39, q24_40, q24_41, q24_44, q24_47, q24_48, q24_51, q24_52, shC_0, shC_1, shC_2, shC_3, shC_4, shC_5, shC_6, shC_7, shC_8, shC_9, shC_10, shC_11, shC_12, shC_13, shC_14, shC_29, shC_58, shC_59, shC_60, shC_61, shC_62, shC_63, shC_64, shC_65, shC_66, shC_67, shC_68, shC_69, shC_70, shL_2, shL_3, shL_4, shL_5, shL_6, shL_8, shL_10, shL_12, shL_14, shL_29, shL_58, shL_60, shL_62, shL_63, shL_65, shL_66, shL_67, shL_68, shL_69, shL_70, shR_0_0, shR_0_1, shR_0_2, shR_0_3, shR_0_4, shR_0_5, shR_0_6, shR_0_7, shR_1_3, shR_1_4, shR_1_5, shR_1_6, shR_1_7, shR_1_8, shR_1_9, shR_1_10, shR_1_11, shR_7_2, shR_9_2, shR_11_2, shR_13_0, shR_59_0, shR_61_0, shR_61_1, shR_61_2, shR_64_0, shR_64_1, shR_64_2, shR_64_3, shR_64_4, shR_64_5, k89, c2, c1', c3, c3', false_or, true_and, pushR_I, pushR_L, pushR_R, pushR_V, InR_gg, InR_ga, InR_wr, InL_gl, InR_b, b01, b01_0, if_true, if_false, not_true_eq_false, not_false_eq_true, and_true, true_and, and_self, Sum.inl.injEq, one0, Bool.false_eq_true]
      · have c3' : gg σ 64 7 < heat + ga σ 69 o := by omega
        simp (disch := first | with_reducible assumption | omega | exact ga_in _ _ _ | exact gg_in _ _ _ | (unfold InR; omega) | (unfold InL; omega) | (simp only [shC_0, shC_1, shC_2, shC_3, shC_4, shC_5, shC_6, shC_7, shC_8, shC_9, shC_10, shC_11, shC_12, shC_13, shC_14, shC_29, shC_58, shC_59, shC_60, shC_61, shC_62, shC_63, shC_64, shC_65, shC_66, shC_67, shC_68, shC_69, shC_70, shL_2, shL_3, shL_4, shL_5, shL_6, shL_8, shL_10, shL_12, shL_14, shL_29, shL_58, shL_60, shL_62, shL_63, shL_65, shL_66, shL_67, shL_68, shL_69, shL_70]; first | done | omega)) only [q24_0, q24_1, q24_2, q24_5, q24_6, q24_9, q24_10, q24_12, q24_14, q24_15, q24_18, q24_21, q24_23, q24_24, q24_27, q24_30, q24_31, q24_32, q24_35, q24_36, q24_39, q24_40, q24_41, q24_44, q24_47, q24_48, q24_51, q24_52, shC_0, shC_1, shC_2, shC_3, shC_4, shC_5, shC_6, shC_7, shC_8, shC_9, shC_10, shC_11, shC_12, shC_13, shC_14, shC_29, shC_58, shC_59, shC_60, shC_61, shC_62, shC_63, shC_64, shC_65, shC_66, shC_67, shC_68, shC_69, shC_70, shL_2, shL_3, shL_4, shL_5, shL_6, shL_8, shL_10, shL_12, shL_14, shL_29, shL_58, shL_60, shL_62, shL_63, shL_65, shL_66, shL_67, shL_68, shL_69, shL_70, shR_0_0, shR_0_1, shR_0_2, shR_0_3, shR_0_4, shR_0_5, shR_0_6, shR_0_7, shR_1_3, shR_1_4, shR_1_5, shR_1_6, shR_1_7, shR_1_8, shR_1_9, shR_1_10, shR_1_11, shR_7_2, shR_9_2, shR_11_2, shR_13_0, shR_59_0, shR_61_0, shR_61_1, shR_61_2, shR_64_0, shR_64_1, shR_64_2, shR_64_3, shR_64_4, shR_64_5, k89, c2, c1', c3, c3', false_or, true_and, and_false, pushR_I, pushR_L, pushR_R, pushR_V, InR_gg, InR_ga, InR_wr, InL_gl, InR_b, b01, b01_0, if_true, if_false, not_true_eq_false, not_false_eq_true, and_true, true_and, and_self, Sum.inl.injEq, one0, Bool.false_eq_true]
    · simp (disch := first | with_reducible assumption | omega | exact ga_in _ _ _ | exact gg_in _ _ _ | (unfold InR; omega) | (unfold InL; omega) | (simp only [shC_0, shC_1, shC_2, shC_3, shC_4, shC_5, shC_6, shC_7, shC_8, shC_9, shC_10, shC_11, shC_12, shC_13, shC_14, shC_29, shC_58, shC_59, shC_60, shC_61, shC_62, shC_63, shC_64, shC_65, shC_66, shC_67, shC_68, shC_69, shC_70, shL_2, shL_3, shL_4, shL_5, shL_6, shL_8, shL_10, shL_12, shL_14, shL_29, shL_58, shL_60, shL_62, shL_63, shL_65, shL_66, shL_67, shL_68, shL_69, shL_70]; first | done | omega)) only [q24_0, q24_1, q24_2, q24_5, q24_6, q24_9, q24_10, q24_12, q24_14, q24_15, q24_18, q24_21, q24_23, q24_24, q24_27, q24_30, q24_31, q24_32, q24_35, q24_36, q24_39, q24_40, q24_41, q24_44, q24_47, q24_48, q24_51, q24_52, shC_0, shC_1, shC_2, shC_3, shC_4, shC_5, shC_6, shC_7, shC_8, shC_9, shC_10, shC_11, shC_12, shC_13, shC_14, shC_29, shC_58, shC_59, shC_60, shC_61, shC_62, shC_63, shC_64, shC_65, shC_66, shC_67, shC_68, shC_69, shC_70, shL_2, shL_3, shL_4, shL_5, shL_6, shL_8, shL_10, shL_12, shL_14, shL_29, shL_58, shL_60, shL_62, shL_63, shL_65, shL_66, shL_67, shL_68, shL_69, shL_70, shR_0_0, shR_0_1, shR_0_2, shR_0_3, shR_0_4, shR_0_5, shR_0_6, shR_0_7, shR_1_3, shR_1_4, shR_1_5, shR_1_6, shR_1_7, shR_1_8, shR_1_9, shR_1_10, shR_1_11, shR_7_2, shR_9_2, shR_11_2, shR_13_0, shR_59_0, shR_61_0, shR_61_1, shR_61_2, shR_64_0, shR_64_1, shR_64_2, shR_64_3, shR_64_4, shR_64_5, k89, c1, c2, false_or, false_and, pushR_I, pushR_L, pushR_R, pushR_V, InR_gg, InR_ga, InR_wr, InL_gl, InR_b, b01, b01_0, if_true, if_false, not_true_eq_false, not_false_eq_true, and_true, true_and, and_self, Sum.inl.injEq, one0, Bool.false_eq_true]
theorem k24 {o hot heat : Int} (ho : 0 ≤ o ∧ o ≤ 5) (h1 : 0 ≤ hot ∧ hot ≤ 1000) (h2 : 0 ≤ heat ∧ heat ≤ 1000) (h3 : 0 ≤ ga σ 68 o ∧ ga σ 68 o ≤ 1000) (h4 : 0 ≤ ga σ 69 o ∧ ga σ 69 o ≤ 1000) :
    CalK (d + 2) 24 [.inr (.inr (.inl 64)), .inl o, .inl hot, .inl heat] σ K = K (.inl (if hot + ga σ 68 o < gg σ 64 6 ∨ (hot + ga σ 68 o = gg σ 64 6 ∧ heat + ga σ 69 o ≤ gg σ 64 7) then 1 else 0)) σ := CalK_eq (m24 ho h1 h2 h3 h4)
theorem l23b {n : Nat} {o : Int} (hO : TOK σ 1) (ho : 0 ≤ o ∧ o < gg σ 1 1) (hn : gg σ 1 0 = (n : Int)) : ∀ (k l : Nat) (a : Int), l + k = n → 0 ≤ a ∧ a ≤ 99 → Wp none (d + 2) 23 58 [.inr (.inr (.inl 64)), .inl o, .inl a, .inl (l : Int)] [] σ Q = Wp none (d + 2) 23 103 [.inr (.inr (.inl 64)), .inl o, .inl (mxF (fun l => heI (ga σ 6 o) (tkT σ 1 o (l : Int))) l k a), .inl (n : Int)] [] σ Q := by
  have hO' := hO
  obtain ⟨o1, o2, o3, o4, o5⟩ := TOK1 hO
  obtain ⟨c1, c2⟩ := o5 o ho.1 ho.2
  intro k
  induction k with
  | zero =>
    intro l a hl ha
    have e : l = n := by omega
    subst e
    simp (disch := first | with_reducible assumption | omega | exact ga_in _ _ _ | exact gg_in _ _ _ | (unfold InR; omega) | (unfold InL; omega) | (simp only [shC_0, shC_1, shC_2, shC_3, shC_4, shC_5, shC_6, shC_7, shC_8, shC_9, shC_10, shC_11, shC_12, shC_13, shC_14, shC_29, shC_58, shC_59, shC_60, shC_61, shC_62, shC_63, shC_64, shC_65, shC_66, shC_67, shC_68, shC_69, shC_70, shL_2, shL_3, shL_4, shL_5, shL_6, shL_8, shL_10, shL_12, shL_14, shL_29, shL_58, shL_60, shL_62, shL_63, shL_65, shL_66, shL_67, shL_68, shL_69, shL_70]; first | done | omega)) only [q23_58, q23_59, q23_60, q23_63, q23_66, shC_0, shC_1, shC_2, shC_3, shC_4, shC_5, shC_6, shC_7, shC_8, shC_9, shC_10, shC_11, shC_12, shC_13, shC_14, shC_29, shC_58, shC_59, shC_60, shC_61, shC_62, shC_63, shC_64, shC_65, shC_66, shC_67, shC_68, shC_69, shC_70, shL_2, shL_3, shL_4, shL_5, shL_6, shL_8, shL_10, shL_12, shL_14, shL_29, shL_58, shL_60, shL_62, shL_63, shL_65, shL_66, shL_67, shL_68, shL_69, shL_70, shR_0_0, shR_0_1, shR_0_2, shR_0_3, shR_0_4, shR_0_5, shR_0_6, shR_0_7, shR_1_3, shR_1_4, shR_1_5, shR_1_6, shR_1_7, shR_1_8, shR_1_9, shR_1_10, shR_1_11, shR_7_2, shR_9_2, shR_11_2, shR_13_0, shR_59_0, shR_61_0, shR_61_1, shR_61_2, shR_64_0, shR_64_1, shR_64_2, shR_64_3, shR_64_4, shR_64_5, hn, Int.le_refl, mxF, pushR_I, pushR_L, pushR_R, pushR_V, InR_gg, InR_ga, InR_wr, InL_gl, InR_b, b01, b01_0, if_true, if_false, not_true_eq_false, not_false_eq_true, and_true, true_and, and_self, Sum.inl.injEq, one0, Bool.false_eq_true]
  | succ k ih =>
    intro l a hl ha
    have eg : ¬ (n : Int) ≤ (l : Int) := by omega
    have eb := tkT_b hO' (l := (l : Int)) (o := o) (by omega) ho
    have hb := heI_b (h := ga σ 6 o) (m := tkT σ 1 o (l : Int)) c2 eb.1
    simp (disch := first | with_reducible assumption | omega | exact ga_in _ _ _ | exact gg_in _ _ _ | (unfold InR; omega) | (unfold InL; omega) | (simp only [shC_0, shC_1, shC_2, shC_3, shC_4, shC_5, shC_6, shC_7, shC_8, shC_9, shC_10, shC_11, shC_12, shC_13, shC_14, shC_29, shC_58, shC_59, shC_60, shC_61, shC_62, shC_63, shC_64, shC_65, shC_66, shC_67, shC_68, shC_69, shC_70, shL_2, shL_3, shL_4, shL_5, shL_6, shL_8, shL_10, shL_12, shL_14, shL_29, shL_58, shL_60, shL_62, shL_63, shL_65, shL_66, shL_67, shL_68, shL_69, shL_70]; first | done | omega)) only [q23_58, q23_59, q23_60, q23_63, q23_66, q23_69, q23_70, q23_71, q23_74, q23_77, q23_78, q23_81, q23_82, q23_85, q23_86, q23_87, q23_90, q23_93, q23_96, q23_97, shC_0, shC_1, shC_2, shC_3, shC_4, shC_5, shC_6, shC_7, shC_8, shC_9, shC_10, shC_11, shC_12, shC_13, shC_14, shC_29, shC_58, shC_59, shC_60, shC_61, shC_62, shC_63, shC_64, shC_65, shC_66, shC_67, shC_68, shC_69, shC_70, shL_2, shL_3, shL_4, shL_5, shL_6, shL_8, shL_10, shL_12, shL_14, shL_29, shL_58, shL_60, shL_62, shL_63, shL_65, shL_66, shL_67, shL_68, shL_69, shL_70, shR_0_0, shR_0_1, shR_0_2, shR_0_3, shR_0_4, shR_0_5, shR_0_6, shR_0_7, shR_1_3, shR_1_4, shR_1_5, shR_1_6, shR_1_7, shR_1_8, shR_1_9, shR_1_10, shR_1_11, shR_7_2, shR_9_2, shR_11_2, shR_13_0, shR_59_0, shR_61_0, shR_61_1, shR_61_2, shR_64_0, shR_64_1, shR_64_2, shR_64_3, shR_64_4, shR_64_5, hn, eg, k39 (d := d) (σ := σ) T1 hO', k89, k96, k203, pushR_I, pushR_L, pushR_R, pushR_V, InR_gg, InR_ga, InR_wr, InL_gl, InR_b, b01, b01_0, if_true, if_false, not_true_eq_false, not_false_eq_true, and_true, true_and, and_self, Sum.inl.injEq, one0, Bool.false_eq_true]
    rw [q23_100]
    have kb : 0 ≤ (if a < heI (ga σ 6 o) (tkT σ 1 o (l : Int)) then heI (ga σ 6 o) (tkT σ 1 o (l : Int)) else a) ∧ (if a < heI (ga σ 6 o) (tkT σ 1 o (l : Int)) then heI (ga σ 6 o) (tkT σ 1 o (l : Int)) else a) ≤ 99 := by split <;> omega
    exact ih (l + 1) _ (by omega) kb
theorem mxH_b {n : Nat} {j : Nat} (hO : TOK σ 1) (hj : (j : Int) < gg σ 1 1) (hn : gg σ 1 0 = (n : Int)) : 0 ≤ mxH σ n j ∧ mxH σ n j ≤ 99 ∧ ga σ 6 (j : Int) ≤ mxH σ n j ∧ ∀ l, l < n → heI (ga σ 6 (j : Int)) (tkT σ 1 (j : Int) (l : Int)) ≤ mxH σ n j := by
  have hO' := hO
  obtain ⟨o1, o2, o3, o4, o5⟩ := TOK1 hO
  obtain ⟨c1, c2⟩ := o5 (j : Int) (by omega) hj
  obtain ⟨x1, x2, x3⟩ := mxF_b (c := fun l => heI (ga σ 6 (j : Int)) (tkT σ 1 (j : Int) (l : Int))) (B := 99) n 0 (ga σ 6 (j : Int)) c2.2 (fun l _ h2 => (heI_b c2 (tkT_b hO' (by omega) ⟨by omega, hj⟩).1).2)
  exact ⟨by unfold mxH; omega, x2, x1, fun l hl => x3 l (by omega) (by omega)⟩
theorem HA_b {n O : Nat} (hO : TOK σ 1) (hn : gg σ 1 0 = (n : Int)) (hO2 : gg σ 1 1 = (O : Int)) : ∀ (k o : Nat), o + k = O → (0 ≤ HAf σ n O o ∧ HAf σ n O o ≤ k) ∧ (0 ≤ EAf σ n O o ∧ EAf σ n O o ≤ 99 * k) := by
  intro k
  induction k with
  | zero =>
    intro o h
    have : O - o = 0 := by omega
    unfold HAf EAf
    rw [this]
    simp only [sumF]
    omega
  | succ k ih =>
    intro o h
    have e : O - o = (O - (o + 1)) + 1 := by omega
    obtain ⟨y1, y2⟩ := ih (o + 1) (by omega)
    obtain ⟨x1, x2, x3, x4⟩ := mxH_b (j := o) hO (by omega) hn
    have hb := hot1_b (mxH σ n o)
    unfold HAf at y1 ⊢
    unfold EAf at y2 ⊢
    rw [e]
    simp only [sumF]
    omega
theorem HA_s {n O o : Nat} (h : o < O) : HAf σ n O o = hot1 (mxH σ n o) + HAf σ n O (o + 1) ∧ EAf σ n O o = mxH σ n o + EAf σ n O (o + 1) := by
  have e : O - o = (O - (o + 1)) + 1 := by omega
  unfold HAf EAf
  rw [e]
  exact ⟨rfl, rfl⟩
def S689 (a _b : Nat) : Prop := a = 68 ∨ a = 69
theorem l23 {n O : Nat} (hO : TOK σ 1) (hn : gg σ 1 0 = (n : Int)) (hO2 : gg σ 1 1 = (O : Int)) : ∀ (i : Nat) (χ : SG) (w2 w3 : AV), i ≤ O → SAM S689 σ χ → (∀ j, i ≤ j → j ≤ O → ga χ 68 (j : Int) = HAf σ n O j ∧ ga χ 69 (j : Int) = EAf σ n O j) →
    (∀ χ', SAM S689 σ χ' → (∀ j, j ≤ O → ga χ' 68 (j : Int) = HAf σ n O j ∧ ga χ' 69 (j : Int) = EAf σ n O j) → Q aU χ') → Wp none (d + 2) 23 40 [.inr (.inr (.inl 64)), .inl ((i : Int) - 1), w2, w3] [] χ Q := by
  have hO' := hO
  obtain ⟨o1, o2, o3, o4, o5⟩ := TOK1 hO
  intro i
  induction i with
  | zero =>
    intro χ w2 w3 hi hx hv hq
    have e : ((0 : Nat) : Int) - 1 < 0 := by omega
    simp (disch := first | with_reducible assumption | omega | exact ga_in _ _ _ | exact gg_in _ _ _ | (unfold InR; omega) | (unfold InL; omega) | (simp only [shC_0, shC_1, shC_2, shC_3, shC_4, shC_5, shC_6, shC_7, shC_8, shC_9, shC_10, shC_11, shC_12, shC_13, shC_14, shC_29, shC_58, shC_59, shC_60, shC_61, shC_62, shC_63, shC_64, shC_65, shC_66, shC_67, shC_68, shC_69, shC_70, shL_2, shL_3, shL_4, shL_5, shL_6, shL_8, shL_10, shL_12, shL_14, shL_29, shL_58, shL_60, shL_62, shL_63, shL_65, shL_66, shL_67, shL_68, shL_69, shL_70]; first | done | omega)) only [q23_40, q23_41, q23_152, e, pushR_I, pushR_L, pushR_R, pushR_V, InR_gg, InR_ga, InR_wr, InL_gl, InR_b, b01, b01_0, if_true, if_false, not_true_eq_false, not_false_eq_true, and_true, true_and, and_self, Sum.inl.injEq, one0, Bool.false_eq_true]
    exact hq χ hx (fun j hj => hv j (by omega) hj)
  | succ i ih =>
    intro χ w2 w3 hi hx hv hq
    have tsame : ∀ a b, 1 ≤ a → a ≤ 1 + 5 → gg χ a b = gg σ a b := fun a b h1 h2 => hx.1 _ _ (fun q => by unfold S689 at q; omega)
    have hT : TOK χ 1 := TOK_same hO' tsame
    have g0 : gg χ 1 0 = (n : Int) := by rw [tsame 1 0 (by omega) (by omega), hn]
    have g1 : gg χ 1 1 = (O : Int) := by rw [tsame 1 1 (by omega) (by omega), hO2]
    have e : ((i + 1 : Nat) : Int) - 1 = (i : Int) := by omega
    have e0 : ¬ (i : Int) < 0 := by omega
    have e1 : (i : Int) + 1 = ((i + 1 : Nat) : Int) := rfl
    have e6 : ga χ 6 (i : Int) = ga σ 6 (i : Int) := hx.1 _ _ (fun q => by unfold S689 at q; omega)
    obtain ⟨v1, v2⟩ := hv (i + 1) (Nat.le_refl _) hi
    obtain ⟨c1, c2⟩ := o5 (i : Int) (by omega) (by omega)
    have em : mxF (fun l => heI (ga χ 6 (i : Int)) (tkT χ 1 (i : Int) (l : Int))) 0 n (ga χ 6 (i : Int)) = mxH σ n i := by
      unfold mxH
      rw [e6]
      exact mxF_congr n 0 _ (fun j _ _ => by rw [tkT_same tsame])
    have hb := mxH_b (j := i) hO' (by omega) hn
    obtain ⟨s1, s2⟩ := HA_s (σ := σ) (n := n) (O := O) (o := i) (by omega)
    have hb2 := hot1_b (mxH σ n i)
    obtain ⟨y1, y2⟩ := HA_b hO' hn hO2 (O - (i + 1)) (i + 1) (by omega)
    simp (disch := first | with_reducible assumption | omega | exact ga_in _ _ _ | exact gg_in _ _ _ | (unfold InR; omega) | (unfold InL; omega) | (simp only [shC_0, shC_1, shC_2, shC_3, shC_4, shC_5, shC_6, shC_7, shC_8, shC_9, shC_10, shC_11, shC_12, shC_13, shC_14, shC_29, shC_58, shC_59, shC_60, shC_61, shC_62, shC_63, shC_64, shC_65, shC_66, shC_67, shC_68, shC_69, shC_70, shL_2, shL_3, shL_4, shL_5, shL_6, shL_8, shL_10, shL_12, shL_14, shL_29, shL_58, shL_60, shL_62, shL_63, shL_65, shL_66, shL_67, shL_68, shL_69, shL_70]; first | done | omega)) only [q23_40, q23_41, q23_44, q23_45, q23_48, q23_51, q23_52, q23_55, q23_56, q23_57, shC_0, shC_1, shC_2, shC_3, shC_4, shC_5, shC_6, shC_7, shC_8, shC_9, shC_10, shC_11, shC_12, shC_13, shC_14, shC_29, shC_58, shC_59, shC_60, shC_61, shC_62, shC_63, shC_64, shC_65, shC_66, shC_67, shC_68, shC_69, shC_70, shL_2, shL_3, shL_4, shL_5, shL_6, shL_8, shL_10, shL_12, shL_14, shL_29, shL_58, shL_60, shL_62, shL_63, shL_65, shL_66, shL_67, shL_68, shL_69, shL_70, shR_0_0, shR_0_1, shR_0_2, shR_0_3, shR_0_4, shR_0_5, shR_0_6, shR_0_7, shR_1_3, shR_1_4, shR_1_5, shR_1_6, shR_1_7, shR_1_8, shR_1_9, shR_1_10, shR_1_11, shR_7_2, shR_9_2, shR_11_2, shR_13_0, shR_59_0, shR_61_0, shR_61_1, shR_61_2, shR_64_0, shR_64_1, shR_64_2, shR_64_3, shR_64_4, shR_64_5, e, e0, k89, pushR_I, pushR_L, pushR_R, pushR_V, InR_gg, InR_ga, InR_wr, InL_gl, InR_b, b01, b01_0, if_true, if_false, not_true_eq_false, not_false_eq_true, and_true, true_and, and_self, Sum.inl.injEq, one0, Bool.false_eq_true]
    refine (l23b (d := d) (n := n) (o := (i : Int)) hT ⟨by omega, by omega⟩ g0 n 0 (ga χ 6 (i : Int)) (by omega) (by rw [e6]; exact c2)).mpr ?_
    rw [em]
    simp (disch := first | with_reducible assumption | omega | exact ga_in _ _ _ | exact gg_in _ _ _ | (unfold InR; omega) | (unfold InL; omega) | (simp only [shC_0, shC_1, shC_2, shC_3, shC_4, shC_5, shC_6, shC_7, shC_8, shC_9, shC_10, shC_11, shC_12, shC_13, shC_14, shC_29, shC_58, shC_59, shC_60, shC_61, shC_62, shC_63, shC_64, shC_65, shC_66, shC_67, shC_68, shC_69, shC_70, shL_2, shL_3, shL_4, shL_5, shL_6, shL_8, shL_10, shL_12, shL_14, shL_29, shL_58, shL_60, shL_62, shL_63, shL_65, shL_66, shL_67, shL_68, shL_69, shL_70]; first | done | omega)) only [q23_103, q23_104, q23_107, q23_108, q23_109, q23_112, q23_113, q23_114, q23_115, q23_118, q23_119, q23_122, q23_123, q23_126, q23_127, q23_130, q23_131, q23_132, q23_135, q23_136, q23_137, q23_138, q23_141, q23_142, q23_143, q23_146, shC_0, shC_1, shC_2, shC_3, shC_4, shC_5, shC_6, shC_7, shC_8, shC_9, shC_10, shC_11, shC_12, shC_13, shC_14, shC_29, shC_58, shC_59, shC_60, shC_61, shC_62, shC_63, shC_64, shC_65, shC_66, shC_67, shC_68, shC_69, shC_70, shL_2, shL_3, shL_4, shL_5, shL_6, shL_8, shL_10, shL_12, shL_14, shL_29, shL_58, shL_60, shL_62, shL_63, shL_65, shL_66, shL_67, shL_68, shL_69, shL_70, shR_0_0, shR_0_1, shR_0_2, shR_0_3, shR_0_4, shR_0_5, shR_0_6, shR_0_7, shR_1_3, shR_1_4, shR_1_5, shR_1_6, shR_1_7, shR_1_8, shR_1_9, shR_1_10, shR_1_11, shR_7_2, shR_9_2, shR_11_2, shR_13_0, shR_59_0, shR_61_0, shR_61_1, shR_61_2, shR_64_0, shR_64_1, shR_64_2, shR_64_3, shR_64_4, shR_64_5, e1, v1, v2, k89, k90, k98, hot1_def, gg_ug_eq, gg_ug_ne, gg_ua_ne, ga_ug_ne, ga_ua_ne, ga_ua_eq, ga_ua_ni, wr_id, pushR_I, pushR_L, pushR_R, pushR_V, InR_gg, InR_ga, InR_wr, InL_gl, InR_b, b01, b01_0, if_true, if_false, not_true_eq_false, not_false_eq_true, and_true, true_and, and_self, Sum.inl.injEq, one0, Bool.false_eq_true]
    rw [q23_149]
    refine ih _ _ _ (by omega) (SAM_ua (SAM_ua hx (Or.inl rfl)) (Or.inr rfl)) (fun j h1 h2 => ?_) hq
    by_cases ej : j = i
    · subst ej
      rw [ga_ua_ne _ _ _ _ _ _ (by omega), ga_ua_eq, ga_ua_eq, wr_id ⟨by omega, by omega⟩, wr_id ⟨by omega, by omega⟩]
      exact ⟨by rw [s1]; omega, by rw [s2]; omega⟩
    · rw [ga_ua_ne _ _ _ _ _ _ (by omega), ga_ua_ni _ _ _ _ _ (by omega) (by omega) (by omega), ga_ua_ni _ _ _ _ _ (by omega) (by omega) (by omega), ga_ua_ne _ _ _ _ _ _ (by omega)]
      exact hv j (by omega) h2
theorem m23 {n O : Nat} (hO : TOK σ 1) (hn : gg σ 1 0 = (n : Int)) (hO2 : gg σ 1 1 = (O : Int)) : CalE (d + 3) 23 [.inr (.inr (.inl 64))] σ (fun r τ => r = aU ∧ SAM S689 σ τ ∧ ∀ j, j ≤ O → ga τ 68 (j : Int) = HAf σ n O j ∧ ga τ 69 (j : Int) = EAf σ n O j) := by
  have hO' := hO
  obtain ⟨o1, o2, o3, o4, o5⟩ := TOK1 hO
  refine Cal_ex (ls := [.inr (.inr (.inl 64)), aU, aU, aU]) rfl mna_23 mml_23 mhl_23 rfl rfl ?_
  simp (disch := first | with_reducible assumption | omega | exact ga_in _ _ _ | exact gg_in _ _ _ | (unfold InR; omega) | (unfold InL; omega) | (simp only [shC_0, shC_1, shC_2, shC_3, shC_4, shC_5, shC_6, shC_7, shC_8, shC_9, shC_10, shC_11, shC_12, shC_13, shC_14, shC_29, shC_58, shC_59, shC_60, shC_61, shC_62, shC_63, shC_64, shC_65, shC_66, shC_67, shC_68, shC_69, shC_70, shL_2, shL_3, shL_4, shL_5, shL_6, shL_8, shL_10, shL_12, shL_14, shL_29, shL_58, shL_60, shL_62, shL_63, shL_65, shL_66, shL_67, shL_68, shL_69, shL_70]; first | done | omega)) only [q23_0, q23_1, q23_4, q23_5, q23_8, q23_11, q23_12, q23_15, q23_16, q23_19, q23_20, q23_23, q23_26, q23_27, q23_30, q23_31, q23_34, q23_37, q23_38, q23_39, shC_0, shC_1, shC_2, shC_3, shC_4, shC_5, shC_6, shC_7, shC_8, shC_9, shC_10, shC_11, shC_12, shC_13, shC_14, shC_29, shC_58, shC_59, shC_60, shC_61, shC_62, shC_63, shC_64, shC_65, shC_66, shC_67, shC_68, shC_69, shC_70, shL_2, shL_3, shL_4, shL_5, shL_6, shL_8, shL_10, shL_12, shL_14, shL_29, shL_58, shL_60, shL_62, shL_63, shL_65, shL_66, shL_67, shL_68, shL_69, shL_70, shR_0_0, shR_0_1, shR_0_2, shR_0_3, shR_0_4, shR_0_5, shR_0_6, shR_0_7, shR_1_3, shR_1_4, shR_1_5, shR_1_6, shR_1_7, shR_1_8, shR_1_9, shR_1_10, shR_1_11, shR_7_2, shR_9_2, shR_11_2, shR_13_0, shR_59_0, shR_61_0, shR_61_1, shR_61_2, shR_64_0, shR_64_1, shR_64_2, shR_64_3, shR_64_4, shR_64_5, k90, hO2, gg_ug_eq, gg_ug_ne, gg_ua_ne, ga_ug_ne, ga_ua_ne, ga_ua_eq, ga_ua_ni, wr_id, pushR_I, pushR_L, pushR_R, pushR_V, InR_gg, InR_ga, InR_wr, InL_gl, InR_b, b01, b01_0, if_true, if_false, not_true_eq_false, not_false_eq_true, and_true, true_and, and_self, Sum.inl.injEq, one0, Bool.false_eq_true]
  refine l23 (d := d) (n := n) (O := O) hO' hn hO2 O _ _ _ (Nat.le_refl _) (SAM_ua (SAM_ua (SAM_refl _ _) (Or.inl rfl)) (Or.inr rfl)) (fun j h1 h2 => ?_) (fun χ' h1 h2 => ⟨rfl, h1, h2⟩)
  have ej : j = O := by omega
  subst ej
  rw [ga_ua_ne _ _ _ _ _ _ (by omega), ga_ua_eq, ga_ua_eq]
  unfold HAf EAf
  rw [Nat.sub_self]
  exact ⟨rfl, rfl⟩
theorem pre_get {pre : List Nat} {g j : Nat} (h : j < (pre ++ [g]).length) : (pre ++ [g]).getD j 0 = if j = pre.length then g else pre.getD j 0 := by
  rw [List.length_append, List.length_singleton] at h
  by_cases e : j = pre.length
  · subst e
    rw [if_pos rfl]
    simp
  · rw [if_neg e]
    have : j < pre.length := by omega
    simp [List.getElem?_append_left this]
theorem SP_up {o : Nat} {a b : Nat} (q : SP (o + 1) a b) : SP o a b := by unfold SP at *; omega
/-- behind a way that was tried: what was known is put back -/
theorem rnd_back {τ χ υ : SG} {o l : Nat} {k v w : Int} (hs : SAM (SP o) τ χ) (hu : SAM (SP (o + 1)) (ua (ua χ 65 (o : Int) w) 67 (l : Int) v) υ) (hk : ga τ 67 (l : Int) = k) : SAM (SP o) τ (ua υ 67 (l : Int) k) := by
  rw [ug_ga, ug_ga] at hu
  rw [ug_ga]
  rw [ga_nat] at hk
  refine ⟨fun a b hn => ?_, fun a b => (hu.2 a b).trans (hs.2 a b)⟩
  by_cases h : a = 67 ∧ b = l
  · obtain ⟨rfl, rfl⟩ := h
    rw [gg_ug_eq, ← hk, wr_id (gg_in _ _ _)]
  · rw [gg_ug_ne _ _ _ _ _ _ h, hu.1 a b (fun q => hn (SP_up q)), gg_ug_ne _ _ _ _ _ _ h, gg_ug_ne _ _ _ _ _ _ (fun q => hn (Or.inl ⟨q.1, by have := q.2; omega⟩))]
    exact hs.1 a b hn
/-- what a place of the class's search leaves -/
def plR (o : Nat) (τ : SG) (B : List Nat × Int × Int) (r : AV) (υ : SG) : Prop := r = aU ∧ SAM (SP o) τ υ ∧ BR υ B
theorem l25 {n O r o : Nat} {HA EA : Nat → Int} {pre : List Nat} {kn : Nat → Int} {hot heat : Int} {τ : SG} (hO : TOK σ 1) (hn : gg σ 1 0 = (n : Int)) (hO2 : gg σ 1 1 = (O : Int)) (ho : o < O) (hs : SAM S64 σ τ)
    (hk : ∀ l, l < n → ga τ 67 (l : Int) = kn l ∧ 0 ≤ kn l ∧ kn l ≤ 9) (hb1 : 0 ≤ hot ∧ hot ≤ 500) (hb2 : 0 ≤ heat ∧ heat ≤ 500)
    (IH : ∀ (l : Nat) (χ : SG) (B : List Nat × Int × Int), l < n → SAM (SP o) τ χ → BR χ B → CalE (d + 3) 25 [.inr (.inr (.inl 64)), .inl ((o : Int) + 1), .inl (hot + hot1 (gHe (tkW σ) (heW σ) o (l + 1) kn)), .inl (heat + gHe (tkW σ) (heW σ) o (l + 1) kn)] (ua (ua χ 65 (o : Int) (l : Int)) 67 (l : Int) (kn1 (kn l)))
      (plR (o + 1) (ua (ua χ 65 (o : Int) (l : Int)) 67 (l : Int) (kn1 (kn l))) (plcP n (tkW σ) (heW σ) HA EA r (o + 1) (pre ++ [l + 1]) (gKn (l + 1) kn) (hot + hot1 (gHe (tkW σ) (heW σ) o (l + 1) kn)) (heat + gHe (tkW σ) (heW σ) o (l + 1) kn) B))) :
    ∀ (k l : Nat) (χ : SG) (B : List Nat × Int × Int) (w6 w7 w8 : AV), l + k = n → SAM (SP o) τ χ → BR χ B →
    (∀ χ', SAM (SP o) τ χ' → BR χ' (foldU (fun g B => plcP n (tkW σ) (heW σ) HA EA r (o + 1) (pre ++ [g]) (gKn g kn) (hot + hot1 (gHe (tkW σ) (heW σ) o g kn)) (heat + gHe (tkW σ) (heW σ) o g kn) B) k (l + 1) B) → Q aU χ') →
    Wp none (d + 3) 25 92 [.inr (.inr (.inl 64)), .inl (o : Int), .inl hot, .inl heat, .inl (ga σ 6 (o : Int)), .inl (l : Int), w6, w7, w8] [] χ Q := by
  have hO' := hO
  obtain ⟨o1, o2, o3, o4, o5⟩ := TOK1 hO
  obtain ⟨c1, c2⟩ := o5 (o : Int) (by omega) (by omega)
  intro k
  induction k with
  | zero =>
    intro l χ B w6 w7 w8 hl hx hB hq
    have g0 : gg χ 1 0 = (n : Int) := by rw [hx.1 _ _ (fun q => by unfold SP at q; omega), hs.1 _ _ (fun q => by unfold S64 at q; omega), hn]
    have eg : (n : Int) ≤ (l : Int) := by omega
    simp (disch := first | with_reducible assumption | omega | exact ga_in _ _ _ | exact gg_in _ _ _ | (unfold InR; omega) | (unfold InL; omega) | (simp only [shC_0, shC_1, shC_2, shC_3, shC_4, shC_5, shC_6, shC_7, shC_8, shC_9, shC_10, shC_11, shC_12, shC_13, shC_14, shC_29, shC_58, shC_59, shC_60, shC_61, shC_62, shC_63, shC_64, shC_65, shC_66, shC_67, shC_68, shC_69, shC_70, shL_2, shL_3, shL_4, shL_5, shL_6, shL_8, shL_10, shL_12, shL_14, shL_29, shL_58, shL_60, shL_62, shL_63, shL_65, shL_66, shL_67, shL_68, shL_69, shL_70]; first | done | omega)) only [q25_92, q25_94, q25_95, q25_98, q25_101, q25_212, shC_0, shC_1, shC_2, shC_3, shC_4, shC_5, shC_6, shC_7, shC_8, shC_9, shC_10, shC_11, shC_12, shC_13, shC_14, shC_29, shC_58, shC_59, shC_60, shC_61, shC_62, shC_63, shC_64, shC_65, shC_66, shC_67, shC_68, shC_69, shC_70, shL_2, shL_3, shL_4, shL_5, shL_6, shL_8, shL_10, shL_12, shL_14, shL_29, shL_58, shL_60, shL_62, shL_63, shL_65, shL_66, shL_67, shL_68, shL_69, shL_70, shR_0_0, shR_0_1, shR_0_2, shR_0_3, shR_0_4, shR_0_5, shR_0_6, shR_0_7, shR_1_3, shR_1_4, shR_1_5, shR_1_6, shR_1_7, shR_1_8, shR_1_9, shR_1_10, shR_1_11, shR_7_2, shR_9_2, shR_11_2, shR_13_0, shR_59_0, shR_61_0, shR_61_1, shR_61_2, shR_64_0, shR_64_1, shR_64_2, shR_64_3, shR_64_4, shR_64_5, g0, eg, pushR_I, pushR_L, pushR_R, pushR_V, InR_gg, InR_ga, InR_wr, InL_gl, InR_b, b01, b01_0, if_true, if_false, not_true_eq_false, not_false_eq_true, and_true, true_and, and_self, Sum.inl.injEq, one0, Bool.false_eq_true]
    exact hq χ hx hB
  | succ k ih =>
    intro l χ B w6 w7 w8 hl hx hB hq
    have hln : l < n := by omega
    obtain ⟨k1, k2, k3⟩ := hk l hln
    obtain ⟨b1, b2, b3⟩ := o4 (l : Int) (by omega) (by omega)
    have tsame : ∀ a b, 1 ≤ a → a ≤ 1 + 5 → gg χ a b = gg σ a b := fun a b h1 h2 => by
      rw [hx.1 _ _ (fun q => by unfold SP at q; omega), hs.1 _ _ (fun q => by unfold S64 at q; omega)]
    have g0 : gg χ 1 0 = (n : Int) := by rw [tsame 1 0 (by omega) (by omega), hn]
    have gk : ga χ 67 (l : Int) = kn l := by rw [ga_nat, hx.1 _ _ (fun q => by unfold SP at q; omega), ← ga_nat, k1]
    have g5 : ga χ 5 (o : Int) = ga σ 5 (o : Int) := tsame 5 _ (by omega) (by omega)
    have hT : TOK χ 1 := TOK_same hO' tsame
    have gl : ltT χ 1 (l : Int) (kn l) = ltT σ 1 (l : Int) (kn l) := ltT_same tsame
    have gb : 0 ≤ ltT σ 1 (l : Int) (kn l) ∧ ltT σ 1 (l : Int) (kn l) ≤ 4008 := ltI_b (u := ga σ 3 (l : Int)) (by omega) (by omega)
    have gt := tkI_b (kind := ga σ 5 (o : Int)) gb c2
    have gh := heI_b (h := ga σ 6 (o : Int)) (m := tkI (ga σ 5 (o : Int)) (ltT σ 1 (l : Int) (kn l)) (ga σ 6 (o : Int))) c2 gt.1
    have eg : ¬ (n : Int) ≤ (l : Int) := by omega
    have eH : gHe (tkW σ) (heW σ) o (l + 1) kn = heI (ga σ 6 (o : Int)) (tkI (ga σ 5 (o : Int)) (ltT σ 1 (l : Int) (kn l)) (ga σ 6 (o : Int))) := by
      unfold gHe
      rw [if_neg (by omega), Nat.add_sub_cancel]
      rfl
    have hc := IH l χ B hln hx hB
    simp (disch := first | with_reducible assumption | omega | exact ga_in _ _ _ | exact gg_in _ _ _ | (unfold InR; omega) | (unfold InL; omega) | (simp only [shC_0, shC_1, shC_2, shC_3, shC_4, shC_5, shC_6, shC_7, shC_8, shC_9, shC_10, shC_11, shC_12, shC_13, shC_14, shC_29, shC_58, shC_59, shC_60, shC_61, shC_62, shC_63, shC_64, shC_65, shC_66, shC_67, shC_68, shC_69, shC_70, shL_2, shL_3, shL_4, shL_5, shL_6, shL_8, shL_10, shL_12, shL_14, shL_29, shL_58, shL_60, shL_62, shL_63, shL_65, shL_66, shL_67, shL_68, shL_69, shL_70]; first | done | omega)) only [q25_92, q25_94, q25_95, q25_98, q25_101, q25_104, q25_105, q25_108, q25_110, q25_113, q25_115, q25_116, q25_119, q25_121, q25_123, q25_126, q25_128, q25_130, q25_131, q25_134, q25_137, q25_138, q25_141, q25_143, q25_145, q25_148, q25_151, q25_153, q25_154, q25_157, q25_158, q25_160, q25_163, q25_164, q25_167, q25_169, q25_171, q25_174, q25_177, q25_178, q25_179, q25_180, q25_181, q25_182, q25_184, q25_187, q25_188, q25_189, q25_191, q25_192, shC_0, shC_1, shC_2, shC_3, shC_4, shC_5, shC_6, shC_7, shC_8, shC_9, shC_10, shC_11, shC_12, shC_13, shC_14, shC_29, shC_58, shC_59, shC_60, shC_61, shC_62, shC_63, shC_64, shC_65, shC_66, shC_67, shC_68, shC_69, shC_70, shL_2, shL_3, shL_4, shL_5, shL_6, shL_8, shL_10, shL_12, shL_14, shL_29, shL_58, shL_60, shL_62, shL_63, shL_65, shL_66, shL_67, shL_68, shL_69, shL_70, shR_0_0, shR_0_1, shR_0_2, shR_0_3, shR_0_4, shR_0_5, shR_0_6, shR_0_7, shR_1_3, shR_1_4, shR_1_5, shR_1_6, shR_1_7, shR_1_8, shR_1_9, shR_1_10, shR_1_11, shR_7_2, shR_9_2, shR_11_2, shR_13_0, shR_59_0, shR_61_0, shR_61_1, shR_61_2, shR_64_0, shR_64_1, shR_64_2, shR_64_3, shR_64_4, shR_64_5, g0, gk, gl, g5, eg, k89, k38 (d := d + 1) (σ := χ) T1 hT, k90, k95, k96, k98, k99, hot1_def, pushR_I, pushR_L, pushR_R, pushR_V, InR_gg, InR_ga, InR_wr, InL_gl, InR_b, b01, b01_0, if_true, if_false, not_true_eq_false, not_false_eq_true, and_true, true_and, and_self, Sum.inl.injEq, one0, Bool.false_eq_true]
    rw [eH] at hc
    refine CalK_E hc (fun r υ hP => ?_)
    obtain ⟨rfl, hS, hB2⟩ := hP
    simp (disch := first | with_reducible assumption | omega | exact ga_in _ _ _ | exact gg_in _ _ _ | (unfold InR; omega) | (unfold InL; omega) | (simp only [shC_0, shC_1, shC_2, shC_3, shC_4, shC_5, shC_6, shC_7, shC_8, shC_9, shC_10, shC_11, shC_12, shC_13, shC_14, shC_29, shC_58, shC_59, shC_60, shC_61, shC_62, shC_63, shC_64, shC_65, shC_66, shC_67, shC_68, shC_69, shC_70, shL_2, shL_3, shL_4, shL_5, shL_6, shL_8, shL_10, shL_12, shL_14, shL_29, shL_58, shL_60, shL_62, shL_63, shL_65, shL_66, shL_67, shL_68, shL_69, shL_70]; first | done | omega)) only [q25_195, q25_196, q25_199, q25_201, q25_203, q25_206, shC_0, shC_1, shC_2, shC_3, shC_4, shC_5, shC_6, shC_7, shC_8, shC_9, shC_10, shC_11, shC_12, shC_13, shC_14, shC_29, shC_58, shC_59, shC_60, shC_61, shC_62, shC_63, shC_64, shC_65, shC_66, shC_67, shC_68, shC_69, shC_70, shL_2, shL_3, shL_4, shL_5, shL_6, shL_8, shL_10, shL_12, shL_14, shL_29, shL_58, shL_60, shL_62, shL_63, shL_65, shL_66, shL_67, shL_68, shL_69, shL_70, shR_0_0, shR_0_1, shR_0_2, shR_0_3, shR_0_4, shR_0_5, shR_0_6, shR_0_7, shR_1_3, shR_1_4, shR_1_5, shR_1_6, shR_1_7, shR_1_8, shR_1_9, shR_1_10, shR_1_11, shR_7_2, shR_9_2, shR_11_2, shR_13_0, shR_59_0, shR_61_0, shR_61_1, shR_61_2, shR_64_0, shR_64_1, shR_64_2, shR_64_3, shR_64_4, shR_64_5, k90, pushR_I, pushR_L, pushR_R, pushR_V, InR_gg, InR_ga, InR_wr, InL_gl, InR_b, b01, b01_0, if_true, if_false, not_true_eq_false, not_false_eq_true, and_true, true_and, and_self, Sum.inl.injEq, one0, Bool.false_eq_true]
    rw [q25_209]
    refine ih (l + 1) _ _ _ _ _ (by omega) (rnd_back hx hS k1) (BR_same hB2 (fun a b h => gg_ua_ne _ _ _ _ _ _ (by omega))) (fun χ' h1 h2 => hq χ' h1 ?_)
    simp only [foldU]
    rw [eH]
    exact h2
theorem m25 {n O : Nat} {kn0 : Nat → Int} (hO : TOK σ 1) (hn : gg σ 1 0 = (n : Int)) (hO2 : gg σ 1 1 = (O : Int)) (hk0 : ∀ l, l < n → 0 ≤ kn0 l) :
    ∀ (r o : Nat) (pre : List Nat) (kn : Nat → Int) (hot heat : Int) (B : List Nat × Int × Int) (τ : SG), o + r = O → pre.length = o → SAM S64 σ τ → (∀ j, j ≤ O → ga τ 68 (j : Int) = HAf σ n O j ∧ ga τ 69 (j : Int) = EAf σ n O j) →
    (∀ l, l < n → ga τ 67 (l : Int) = kn l) → knLe n kn0 kn → (∀ j, j < pre.length → ga τ 65 (j : Int) = (pre.getD j 0 : Int) - 1) → BR τ B → (0 ≤ hot ∧ hot ≤ o) → (0 ≤ heat ∧ heat ≤ 99 * o) → (∀ j, j < pre.length → pre.getD j 0 ≤ n) →
    CalE (d + r + 4) 25 [.inr (.inr (.inl 64)), .inl (o : Int), .inl hot, .inl heat] τ (plR o τ (plcP n (tkW σ) (heW σ) (HAf σ n O) (EAf σ n O) r o pre kn hot heat B)) := by
  have hO' := hO
  obtain ⟨o1, o2, o3, o4, o5⟩ := TOK1 hO
  intro r
  induction r with
  | zero =>
    intro o pre kn hot heat B τ ho hp hs hA hk hkl hw hB h1 h2 hpn
    obtain ⟨a1, a2⟩ := hA o (by omega)
    obtain ⟨y1, y2⟩ := HA_b hO' hn hO2 (O - o) o (by omega)
    obtain ⟨B1, B2, B3⟩ := hB
    have g1 : gg τ 1 1 = (O : Int) := by rw [hs.1 _ _ (fun q => by unfold S64 at q; omega), hO2]
    have eo : (O : Int) ≤ (o : Int) := by omega
    refine Cal_ex (ls := [.inr (.inr (.inl 64)), .inl (o : Int), .inl hot, .inl heat, aU, aU, aU, aU, aU]) rfl mna_25 mml_25 mhl_25 rfl rfl ?_
    by_cases hh : hot + HAf σ n O o < B.2.1 ∨ (hot + HAf σ n O o = B.2.1 ∧ heat + EAf σ n O o ≤ B.2.2)
    · simp (disch := first | with_reducible assumption | omega | exact ga_in _ _ _ | exact gg_in _ _ _ | (unfold InR; omega) | (unfold InL; omega) | (simp only [shC_0, shC_1, shC_2, shC_3, shC_4, shC_5, shC_6, shC_7, shC_8, shC_9, shC_10, shC_11, shC_12, shC_13, shC_14, shC_29, shC_58, shC_59, shC_60, shC_61, shC_62, shC_63, shC_64, shC_65, shC_66, shC_67, shC_68, shC_69, shC_70, shL_2, shL_3, shL_4, shL_5, shL_6, shL_8, shL_10, shL_12, shL_14, shL_29, shL_58, shL_60, shL_62, shL_63, shL_65, shL_66, shL_67, shL_68, shL_69, shL_70]; first | done | omega)) only [q25_0, q25_1, q25_2, q25_3, q25_4, q25_7, q25_10, shC_0, shC_1, shC_2, shC_3, shC_4, shC_5, shC_6, shC_7, shC_8, shC_9, shC_10, shC_11, shC_12, shC_13, shC_14, shC_29, shC_58, shC_59, shC_60, shC_61, shC_62, shC_63, shC_64, shC_65, shC_66, shC_67, shC_68, shC_69, shC_70, shL_2, shL_3, shL_4, shL_5, shL_6, shL_8, shL_10, shL_12, shL_14, shL_29, shL_58, shL_60, shL_62, shL_63, shL_65, shL_66, shL_67, shL_68, shL_69, shL_70, shR_0_0, shR_0_1, shR_0_2, shR_0_3, shR_0_4, shR_0_5, shR_0_6, shR_0_7, shR_1_3, shR_1_4, shR_1_5, shR_1_6, shR_1_7, shR_1_8, shR_1_9, shR_1_10, shR_1_11, shR_7_2, shR_9_2, shR_11_2, shR_13_0, shR_59_0, shR_61_0, shR_61_1, shR_61_2, shR_64_0, shR_64_1, shR_64_2, shR_64_3, shR_64_4, shR_64_5, k24, a1, a2, B1, B2, hh, pushR_I, pushR_L, pushR_R, pushR_V, InR_gg, InR_ga, InR_wr, InL_gl, InR_b, b01, b01_0, if_true, if_false, not_true_eq_false, not_false_eq_true, and_true, true_and, and_self, Sum.inl.injEq, one0, Bool.false_eq_true]
      refine ⟨rfl, SAM_refl _ _, ?_⟩
      simp only [plcP, if_pos hh]
      exact ⟨B1, B2, B3⟩
    · simp (disch := first | with_reducible assumption | omega | exact ga_in _ _ _ | exact gg_in _ _ _ | (unfold InR; omega) | (unfold InL; omega) | (simp only [shC_0, shC_1, shC_2, shC_3, shC_4, shC_5, shC_6, shC_7, shC_8, shC_9, shC_10, shC_11, shC_12, shC_13, shC_14, shC_29, shC_58, shC_59, shC_60, shC_61, shC_62, shC_63, shC_64, shC_65, shC_66, shC_67, shC_68, shC_69, shC_70, shL_2, shL_3, shL_4, shL_5, shL_6, shL_8, shL_10, shL_12, shL_14, shL_29, shL_58, shL_60, shL_62, shL_63, shL_65, shL_66, shL_67, shL_68, shL_69, shL_70]; first | done | omega)) only [q25_0, q25_1, q25_2, q25_3, q25_4, q25_7, q25_10, q25_11, q25_12, q25_13, q25_16, q25_19, q25_22, q25_23, q25_24, q25_27, q25_28, q25_29, q25_32, q25_33, q25_34, q25_37, q25_38, q25_41, q25_42, q25_45, q25_48, shC_0, shC_1, shC_2, shC_3, shC_4, shC_5, shC_6, shC_7, shC_8, shC_9, shC_10, shC_11, shC_12, shC_13, shC_14, shC_29, shC_58, shC_59, shC_60, shC_61, shC_62, shC_63, shC_64, shC_65, shC_66, shC_67, shC_68, shC_69, shC_70, shL_2, shL_3, shL_4, shL_5, shL_6, shL_8, shL_10, shL_12, shL_14, shL_29, shL_58, shL_60, shL_62, shL_63, shL_65, shL_66, shL_67, shL_68, shL_69, shL_70, shR_0_0, shR_0_1, shR_0_2, shR_0_3, shR_0_4, shR_0_5, shR_0_6, shR_0_7, shR_1_3, shR_1_4, shR_1_5, shR_1_6, shR_1_7, shR_1_8, shR_1_9, shR_1_10, shR_1_11, shR_7_2, shR_9_2, shR_11_2, shR_13_0, shR_59_0, shR_61_0, shR_61_1, shR_61_2, shR_64_0, shR_64_1, shR_64_2, shR_64_3, shR_64_4, shR_64_5, k24, a1, a2, B1, B2, hh, g1, eo, k91 (s := 65) (t := 66) (N := 5) shC_65 shC_66 (by omega) shL_65 shL_66, pushR_I, pushR_L, pushR_R, pushR_V, InR_gg, InR_ga, InR_wr, InL_gl, InR_b, b01, b01_0, if_true, if_false, not_true_eq_false, not_false_eq_true, and_true, true_and, and_self, Sum.inl.injEq, one0, Bool.false_eq_true]
      refine ⟨rfl, SAM_mR (SAM_ug (SAM_ug (SAM_refl _ _) (Or.inr (Or.inr ⟨rfl, Or.inl rfl⟩))) (Or.inr (Or.inr ⟨rfl, Or.inr rfl⟩))) (fun x _ _ => Or.inr (Or.inl rfl)), ?_⟩
      simp only [plcP, if_neg hh]
      refine ⟨?_, ?_, fun j hj => ?_⟩
      · rw [gg_mR, if_neg (by omega), gg_ug_ne _ _ _ _ _ _ (by omega), gg_ug_eq, wr_id ⟨by omega, by omega⟩]
      · rw [gg_mR, if_neg (by omega), gg_ug_eq, wr_id ⟨by omega, by omega⟩]
      · have hj' : j < pre.length := hj
        rw [ga_mR _ _ _ _ _ _ (by omega), if_pos rfl, if_pos ⟨by omega, by omega⟩, wr_id (ga_in _ _ _), ga_ug_ne _ _ _ _ _ _ (by omega), ga_ug_ne _ _ _ _ _ _ (by omega), Int.toNat_natCast, Nat.sub_zero]
        exact hw j hj'
  | succ r ih =>
    intro o pre kn hot heat B τ ho hp hs hA hk hkl hw hB h1 h2 hpn
    obtain ⟨a1, a2⟩ := hA o (by omega)
    obtain ⟨y1, y2⟩ := HA_b hO' hn hO2 (O - o) o (by omega)
    have hB' := hB
    obtain ⟨B1, B2, B3⟩ := hB
    obtain ⟨c1, c2⟩ := o5 (o : Int) (by omega) (by omega)
    have g1 : gg τ 1 1 = (O : Int) := by rw [hs.1 _ _ (fun q => by unfold S64 at q; omega), hO2]
    have g6 : ga τ 6 (o : Int) = ga σ 6 (o : Int) := hs.1 _ _ (fun q => by unfold S64 at q; omega)
    have eo : ¬ (O : Int) ≤ (o : Int) := by omega
    have eo5 : (o : Int) < 5 := by omega
    have hkn : ∀ l, l < n → 0 ≤ kn l ∧ kn l ≤ 9 := fun l hl => by have x1 := hk0 l hl; have x2 := hkl l hl; omega
    refine Cal_ex (ls := [.inr (.inr (.inl 64)), .inl (o : Int), .inl hot, .inl heat, aU, aU, aU, aU, aU]) rfl mna_25 mml_25 mhl_25 rfl rfl ?_
    by_cases hh : hot + HAf σ n O o < B.2.1 ∨ (hot + HAf σ n O o = B.2.1 ∧ heat + EAf σ n O o ≤ B.2.2)
    · simp (disch := first | with_reducible assumption | omega | exact ga_in _ _ _ | exact gg_in _ _ _ | (unfold InR; omega) | (unfold InL; omega) | (simp only [shC_0, shC_1, shC_2, shC_3, shC_4, shC_5, shC_6, shC_7, shC_8, shC_9, shC_10, shC_11, shC_12, shC_13, shC_14, shC_29, shC_58, shC_59, shC_60, shC_61, shC_62, shC_63, shC_64, shC_65, shC_66, shC_67, shC_68, shC_69, shC_70, shL_2, shL_3, shL_4, shL_5, shL_6, shL_8, shL_10, shL_12, shL_14, shL_29, shL_58, shL_60, shL_62, shL_63, shL_65, shL_66, shL_67, shL_68, shL_69, shL_70]; first | done | omega)) only [q25_0, q25_1, q25_2, q25_3, q25_4, q25_7, q25_10, shC_0, shC_1, shC_2, shC_3, shC_4, shC_5, shC_6, shC_7, shC_8, shC_9, shC_10, shC_11, shC_12, shC_13, shC_14, shC_29, shC_58, shC_59, shC_60, shC_61, shC_62, shC_63, shC_64, shC_65, shC_66, shC_67, shC_68, shC_69, shC_70, shL_2, shL_3, shL_4, shL_5, shL_6, shL_8, shL_10, shL_12, shL_14, shL_29, shL_58, shL_60, shL_62, shL_63, shL_65, shL_66, shL_67, shL_68, shL_69, shL_70, shR_0_0, shR_0_1, shR_0_2, shR_0_3, shR_0_4, shR_0_5, shR_0_6, shR_0_7, shR_1_3, shR_1_4, shR_1_5, shR_1_6, shR_1_7, shR_1_8, shR_1_9, shR_1_10, shR_1_11, shR_7_2, shR_9_2, shR_11_2, shR_13_0, shR_59_0, shR_61_0, shR_61_1, shR_61_2, shR_64_0, shR_64_1, shR_64_2, shR_64_3, shR_64_4, shR_64_5, k24, a1, a2, B1, B2, hh, pushR_I, pushR_L, pushR_R, pushR_V, InR_gg, InR_ga, InR_wr, InL_gl, InR_b, b01, b01_0, if_true, if_false, not_true_eq_false, not_false_eq_true, and_true, true_and, and_self, Sum.inl.injEq, one0, Bool.false_eq_true]
      refine ⟨rfl, SAM_refl _ _, ?_⟩
      simp only [plcP, if_pos hh]
      exact hB'
    · have eH0 : gHe (tkW σ) (heW σ) o 0 kn = ga σ 6 (o : Int) := by unfold gHe; rw [if_pos rfl]; rfl
      have hot0 := hot1_b (ga σ 6 (o : Int))
      -- what each way further on asks
      have step : ∀ (g : Nat) (χ υ : SG) (B : List Nat × Int × Int), g < n + 1 → SAM (SP o) τ χ → BR χ B → gg υ 64 6 = gg χ 64 6 → gg υ 64 7 = gg χ 64 7 → (∀ a b, a ≠ 65 → a ≠ 67 → gg υ a b = gg χ a b) → (∀ a b, gl υ a b = gl χ a b) → (∀ b, b ≠ o → gg υ 65 b = gg χ 65 b) → ga υ 65 (o : Int) = (g : Int) - 1 → (∀ l, l < n → ga υ 67 (l : Int) = gKn g kn l) → (0 ≤ gHe (tkW σ) (heW σ) o g kn ∧ gHe (tkW σ) (heW σ) o g kn ≤ 99) →
          CalE (d + r + 4) 25 [.inr (.inr (.inl 64)), .inl (((o + 1 : Nat)) : Int), .inl (hot + hot1 (gHe (tkW σ) (heW σ) o g kn)), .inl (heat + gHe (tkW σ) (heW σ) o g kn)] υ (plR (o + 1) υ (plcP n (tkW σ) (heW σ) (HAf σ n O) (EAf σ n O) r (o + 1) (pre ++ [g]) (gKn g kn) (hot + hot1 (gHe (tkW σ) (heW σ) o g kn)) (heat + gHe (tkW σ) (heW σ) o g kn) B)) := by
        intro g χ υ B hg hx hBx u6 u7 ua1 ul u65 u65o u67 hge
        have hb := hot1_b (gHe (tkW σ) (heW σ) o g kn)
        have hlen : (pre ++ [g]).length = o + 1 := by rw [List.length_append, List.length_singleton, hp]
        refine ih (o + 1) (pre ++ [g]) (gKn g kn) _ _ B υ (by omega) hlen ⟨fun a b hn => ?_, fun a b => by rw [ul, hx.2, hs.2]⟩ (fun j hj => ?_) u67 (knLe_g hkl g hg) (fun j hj => ?_) (BR_same hBx (fun a b h => ?_)) (by omega) (by omega) (fun j hj => ?_)
        · have n1 : a ≠ 65 := fun e => hn (by unfold S64; omega)
          have n2 : a ≠ 67 := fun e => hn (by unfold S64; omega)
          rw [ua1 a b n1 n2, hx.1 _ _ (fun q => hn (by unfold SP at q; unfold S64; omega)), hs.1 _ _ hn]
        · rw [ga_nat, ga_nat, ua1 68 j (by omega) (by omega), ua1 69 j (by omega) (by omega), hx.1 _ _ (fun q => by unfold SP at q; omega), hx.1 _ _ (fun q => by unfold SP at q; omega), ← ga_nat, ← ga_nat]
          exact hA j hj
        · rw [pre_get hj]
          rw [hlen] at hj
          by_cases e : j = pre.length
          · rw [if_pos e, e, hp]
            exact u65o
          · rw [if_neg e, ga_nat, u65 j (by omega), hx.1 _ _ (fun q => by unfold SP at q; omega), ← ga_nat]
            exact hw j (by omega)
        · exact ua1 a b (by omega) (by omega)
        · rw [pre_get hj]
          rw [hlen] at hj
          by_cases e : j = pre.length
          · rw [if_pos e]; omega
          · rw [if_neg e]; exact hpn j (by omega)
      have e1o : (o : Int) + 1 = ((o + 1 : Nat) : Int) := rfl
      have first := step 0 τ (ua τ 65 (o : Int) (-1)) B (by omega) (SAM_refl _ _) hB' (gg_ua_ne _ _ _ _ _ _ (by omega)) (gg_ua_ne _ _ _ _ _ _ (by omega)) (fun a b e1 e2 => gg_ua_ne _ _ _ _ _ _ e1) (fun a b => rfl) (fun b hb => by rw [gg_ua, if_pos rfl, if_neg (by rw [Int.toNat_natCast]; exact hb)]) (by rw [ga_ua_eq]; rfl) (fun l hl => by rw [ga_ua_ne _ _ _ _ _ _ (by omega), hk l hl]; rfl) (by rw [eH0]; exact c2)
      rw [eH0] at first
      simp (disch := first | with_reducible assumption | omega | exact ga_in _ _ _ | exact gg_in _ _ _ | (unfold InR; omega) | (unfold InL; omega) | (simp only [shC_0, shC_1, shC_2, shC_3, shC_4, shC_5, shC_6, shC_7, shC_8, shC_9, shC_10, shC_11, shC_12, shC_13, shC_14, shC_29, shC_58, shC_59, shC_60, shC_61, shC_62, shC_63, shC_64, shC_65, shC_66, shC_67, shC_68, shC_69, shC_70, shL_2, shL_3, shL_4, shL_5, shL_6, shL_8, shL_10, shL_12, shL_14, shL_29, shL_58, shL_60, shL_62, shL_63, shL_65, shL_66, shL_67, shL_68, shL_69, shL_70]; first | done | omega)) only [q25_0, q25_1, q25_2, q25_3, q25_4, q25_7, q25_10, q25_11, q25_12, q25_13, q25_16, q25_19, q25_22, q25_23, q25_24, q25_27, q25_28, q25_29, q25_32, q25_33, q25_34, q25_37, q25_38, q25_41, q25_42, q25_45, q25_48, q25_49, q25_50, q25_53, q25_56, q25_57, q25_60, q25_62, q25_63, q25_66, q25_67, q25_68, q25_71, q25_72, q25_73, q25_74, q25_75, q25_76, q25_78, q25_81, q25_82, q25_83, q25_85, q25_86, shC_0, shC_1, shC_2, shC_3, shC_4, shC_5, shC_6, shC_7, shC_8, shC_9, shC_10, shC_11, shC_12, shC_13, shC_14, shC_29, shC_58, shC_59, shC_60, shC_61, shC_62, shC_63, shC_64, shC_65, shC_66, shC_67, shC_68, shC_69, shC_70, shL_2, shL_3, shL_4, shL_5, shL_6, shL_8, shL_10, shL_12, shL_14, shL_29, shL_58, shL_60, shL_62, shL_63, shL_65, shL_66, shL_67, shL_68, shL_69, shL_70, shR_0_0, shR_0_1, shR_0_2, shR_0_3, shR_0_4, shR_0_5, shR_0_6, shR_0_7, shR_1_3, shR_1_4, shR_1_5, shR_1_6, shR_1_7, shR_1_8, shR_1_9, shR_1_10, shR_1_11, shR_7_2, shR_9_2, shR_11_2, shR_13_0, shR_59_0, shR_61_0, shR_61_1, shR_61_2, shR_64_0, shR_64_1, shR_64_2, shR_64_3, shR_64_4, shR_64_5, k24, a1, a2, B1, B2, hh, g1, eo, eo5, g6, e1o, k89, k90, k98, hot1_def, pushR_I, pushR_L, pushR_R, pushR_V, InR_gg, InR_ga, InR_wr, InL_gl, InR_b, b01, b01_0, if_true, if_false, not_true_eq_false, not_false_eq_true, and_true, true_and, and_self, Sum.inl.injEq, one0, Bool.false_eq_true]
      refine CalK_E first (fun r1 υ hP => ?_)
      obtain ⟨rfl, hS, hB2⟩ := hP
      simp (disch := first | with_reducible assumption | omega | exact ga_in _ _ _ | exact gg_in _ _ _ | (unfold InR; omega) | (unfold InL; omega) | (simp only [shC_0, shC_1, shC_2, shC_3, shC_4, shC_5, shC_6, shC_7, shC_8, shC_9, shC_10, shC_11, shC_12, shC_13, shC_14, shC_29, shC_58, shC_59, shC_60, shC_61, shC_62, shC_63, shC_64, shC_65, shC_66, shC_67, shC_68, shC_69, shC_70, shL_2, shL_3, shL_4, shL_5, shL_6, shL_8, shL_10, shL_12, shL_14, shL_29, shL_58, shL_60, shL_62, shL_63, shL_65, shL_66, shL_67, shL_68, shL_69, shL_70]; first | done | omega)) only [q25_89, q25_90, pushR_I, pushR_L, pushR_R, pushR_V, InR_gg, InR_ga, InR_wr, InL_gl, InR_b, b01, b01_0, if_true, if_false, not_true_eq_false, not_false_eq_true, and_true, true_and, and_self, Sum.inl.injEq, one0, Bool.false_eq_true]
      have hx1 : SAM (SP o) τ υ := SAM_trans (SAM_ua (SAM_refl _ _) (Or.inl ⟨rfl, by rw [Int.toNat_natCast]; exact Nat.le_refl _⟩)) (SAM_mono hS (fun a b q => SP_up q))
      refine l25 (d := d + r + 1) (n := n) (O := O) (r := r) (o := o) (HA := HAf σ n O) (EA := EAf σ n O) (pre := pre) (kn := kn) (hot := hot) (heat := heat) (τ := τ) hO' hn hO2 (by omega) hs (fun l hl => ⟨hk l hl, hkn l hl⟩) (by omega) (by omega) (fun l χ B hl hx hBx => ?_) n 0 υ _ _ _ _ (by omega) hx1 hB2 (fun χ' h1 h2 => ⟨rfl, h1, ?_⟩)
      · have eb := tkI_b (kind := ga σ 5 (o : Int)) (x := ltT σ 1 (l : Int) (kn l)) (h := ga σ 6 (o : Int)) (ltI_b (u := ga σ 3 (l : Int)) (by obtain ⟨b1, b2, b3⟩ := o4 (l : Int) (by omega) (by omega); omega) (by have := hkn l hl; omega)) c2
        have eh : gHe (tkW σ) (heW σ) o (l + 1) kn = heI (ga σ 6 (o : Int)) (tkI (ga σ 5 (o : Int)) (ltT σ 1 (l : Int) (kn l)) (ga σ 6 (o : Int))) := by
          unfold gHe
          rw [if_neg (by omega), Nat.add_sub_cancel]
          rfl
        have kb := kn1_b (hkn l hl)
        have := step (l + 1) χ (ua (ua χ 65 (o : Int) (l : Int)) 67 (l : Int) (kn1 (kn l))) B (by omega) hx hBx (by rw [gg_ua_ne _ _ _ _ _ _ (by omega), gg_ua_ne _ _ _ _ _ _ (by omega)]) (by rw [gg_ua_ne _ _ _ _ _ _ (by omega), gg_ua_ne _ _ _ _ _ _ (by omega)]) (fun a b e1 e2 => by rw [gg_ua_ne _ _ _ _ _ _ e2, gg_ua_ne _ _ _ _ _ _ e1]) (fun a b => rfl) (fun b hb => by rw [gg_ua_ne _ _ _ _ _ _ (by omega), gg_ua, if_pos rfl, if_neg (by rw [Int.toNat_natCast]; exact hb)])
          (by rw [ga_ua_ne _ _ _ _ _ _ (by omega), ga_ua_eq, wr_id ⟨by omega, by omega⟩]; omega)
          (fun j hj => by
            unfold gKn
            rw [if_neg (by omega), Nat.add_sub_cancel]
            unfold upk
            by_cases e : j = l
            · subst e
              rw [if_pos rfl, ga_ua_eq, wr_id ⟨by omega, by omega⟩]
            · rw [if_neg e, ga_ua_ni _ _ _ _ _ (by omega) (by omega) (by omega), ga_ua_ne _ _ _ _ _ _ (by omega), ga_nat, hx.1 _ _ (fun q => by unfold SP at q; omega), ← ga_nat]
              exact hk j hj)
          (by rw [eh]; exact heI_b c2 eb.1)
        exact this
      · simp only [plcP, if_neg hh, foldU]
        rw [eH0]
        exact h2
/-- the best way: for the class -/
theorem m22 {n O : Nat} (hO : TOK σ 1) (hn : gg σ 1 0 = (n : Int)) (hO2 : gg σ 1 1 = (O : Int)) : CalE (d + 10) 22 [.inr (.inr (.inl 64))] σ (fun r τ => r = aU ∧ SAM S64 σ τ ∧ BR τ (plcF n (tkW σ) (heW σ) O 0 [] (fun l => ga σ 4 (l : Int)) 0 0 ([], -1, -1))) := by
  have hO' := hO
  obtain ⟨o1, o2, o3, o4, o5⟩ := TOK1 hO
  have hb : ∀ o g kn, o < O → g < n + 1 → knLe n (fun l => ga σ 4 (l : Int)) kn → hot1 (gHe (tkW σ) (heW σ) o g kn) + HAf σ n O (o + 1) ≤ HAf σ n O o ∧ gHe (tkW σ) (heW σ) o g kn + EAf σ n O (o + 1) ≤ EAf σ n O o := by
    intro o g kn ho hg hk
    obtain ⟨s1, s2⟩ := HA_s (σ := σ) (n := n) ho
    obtain ⟨x1, x2, x3, x4⟩ := mxH_b (j := o) hO' (by omega) hn
    obtain ⟨c1, c2⟩ := o5 (o : Int) (by omega) (by omega)
    have key : gHe (tkW σ) (heW σ) o g kn ≤ mxH σ n o := by
      unfold gHe
      split
      · exact x3
      · obtain ⟨k1, k2⟩ := hk (g - 1) (by omega)
        have k1 : ga σ 4 ((g - 1 : Nat) : Int) ≤ kn (g - 1) := k1
        obtain ⟨b1, b2, b3⟩ := o4 ((g - 1 : Nat) : Int) (by omega) (by omega)
        have y0 : 0 ≤ ltT σ 1 ((g - 1 : Nat) : Int) (kn (g - 1)) ∧ ltT σ 1 ((g - 1 : Nat) : Int) (kn (g - 1)) ≤ 4008 := ltI_b (u := ga σ 3 ((g - 1 : Nat) : Int)) (by omega) (by omega)
        have y1 : ltT σ 1 ((g - 1 : Nat) : Int) (kn (g - 1)) ≤ ltT σ 1 ((g - 1 : Nat) : Int) (ga σ 4 ((g - 1 : Nat) : Int)) := ltI_mo (u := ga σ 3 ((g - 1 : Nat) : Int)) (by omega) b3.1 k1 (by omega)
        exact Int.le_trans (heI_mo (tkI_mo y0.1 y1 c2.1 (Int.le_refl _))) (x4 (g - 1) (by omega))
    have := hot1_mo key
    omega
  have h0 : HAf σ n O O = 0 ∧ EAf σ n O O = 0 := by
    unfold HAf EAf
    rw [Nat.sub_self]
    exact ⟨rfl, rfl⟩
  refine Cal_ex (ls := [.inr (.inr (.inl 64))]) rfl mna_22 mml_22 mhl_22 rfl rfl ?_
  simp (disch := first | with_reducible assumption | omega | exact ga_in _ _ _ | exact gg_in _ _ _ | (unfold InR; omega) | (unfold InL; omega) | (simp only [shC_0, shC_1, shC_2, shC_3, shC_4, shC_5, shC_6, shC_7, shC_8, shC_9, shC_10, shC_11, shC_12, shC_13, shC_14, shC_29, shC_58, shC_59, shC_60, shC_61, shC_62, shC_63, shC_64, shC_65, shC_66, shC_67, shC_68, shC_69, shC_70, shL_2, shL_3, shL_4, shL_5, shL_6, shL_8, shL_10, shL_12, shL_14, shL_29, shL_58, shL_60, shL_62, shL_63, shL_65, shL_66, shL_67, shL_68, shL_69, shL_70]; first | done | omega)) only [q22_0, q22_1, q22_2, q22_5, q22_6, q22_7, q22_10, q22_11, q22_14, q22_17, q22_18, q22_21, q22_24, shC_0, shC_1, shC_2, shC_3, shC_4, shC_5, shC_6, shC_7, shC_8, shC_9, shC_10, shC_11, shC_12, shC_13, shC_14, shC_29, shC_58, shC_59, shC_60, shC_61, shC_62, shC_63, shC_64, shC_65, shC_66, shC_67, shC_68, shC_69, shC_70, shL_2, shL_3, shL_4, shL_5, shL_6, shL_8, shL_10, shL_12, shL_14, shL_29, shL_58, shL_60, shL_62, shL_63, shL_65, shL_66, shL_67, shL_68, shL_69, shL_70, shR_0_0, shR_0_1, shR_0_2, shR_0_3, shR_0_4, shR_0_5, shR_0_6, shR_0_7, shR_1_3, shR_1_4, shR_1_5, shR_1_6, shR_1_7, shR_1_8, shR_1_9, shR_1_10, shR_1_11, shR_7_2, shR_9_2, shR_11_2, shR_13_0, shR_59_0, shR_61_0, shR_61_1, shR_61_2, shR_64_0, shR_64_1, shR_64_2, shR_64_3, shR_64_4, shR_64_5, k91 (s := 4) (t := 67) (N := 7) shC_4 shC_67 (by omega) shL_4 shL_67, pushR_I, pushR_L, pushR_R, pushR_V, InR_gg, InR_ga, InR_wr, InL_gl, InR_b, b01, b01_0, if_true, if_false, not_true_eq_false, not_false_eq_true, and_true, true_and, and_self, Sum.inl.injEq, one0, Bool.false_eq_true]
  have hs1 : SAM S64 σ (mR (ug (ug σ 64 6 (-1)) 64 7 (-1)) 67 0 7 (fun j => ga (ug (ug σ 64 6 (-1)) 64 7 (-1)) 4 (j : Int))) := SAM_mR (SAM_ug (SAM_ug (SAM_refl _ _) (Or.inl ⟨rfl, Or.inl rfl⟩)) (Or.inl ⟨rfl, Or.inr rfl⟩)) (fun x _ _ => Or.inr (by omega))
  have e67 : ∀ l, l < 7 → ga (mR (ug (ug σ 64 6 (-1)) 64 7 (-1)) 67 0 7 (fun j => ga (ug (ug σ 64 6 (-1)) 64 7 (-1)) 4 (j : Int))) 67 ((l : Nat) : Int) = ga σ 4 (l : Int) := fun l hl => by
    rw [ga_mR _ _ _ _ _ _ (by omega), if_pos rfl, if_pos ⟨by omega, by omega⟩, wr_id (ga_in _ _ _), ga_ug_ne _ _ _ _ _ _ (by omega), ga_ug_ne _ _ _ _ _ _ (by omega), Int.toNat_natCast, Nat.sub_zero]
  have e646 : gg (mR (ug (ug σ 64 6 (-1)) 64 7 (-1)) 67 0 7 (fun j => ga (ug (ug σ 64 6 (-1)) 64 7 (-1)) 4 (j : Int))) 64 6 = -1 := by rw [gg_mR, if_neg (by omega), gg_ug_ne _ _ _ _ _ _ (by omega), gg_ug_eq]; rfl
  have e647 : gg (mR (ug (ug σ 64 6 (-1)) 64 7 (-1)) 67 0 7 (fun j => ga (ug (ug σ 64 6 (-1)) 64 7 (-1)) 4 (j : Int))) 64 7 = -1 := by rw [gg_mR, if_neg (by omega), gg_ug_eq]; rfl
  generalize (mR (ug (ug σ 64 6 (-1)) 64 7 (-1)) 67 0 7 (fun j => ga (ug (ug σ 64 6 (-1)) 64 7 (-1)) 4 (j : Int))) = τ at hs1 e67 e646 e647 ⊢
  have tsame : ∀ a b, 1 ≤ a → a ≤ 1 + 5 → gg τ a b = gg σ a b := fun a b h1 h2 => hs1.1 _ _ (fun q => by unfold S64 at q; omega)
  have hT : TOK τ 1 := TOK_same hO' tsame
  simp (disch := first | with_reducible assumption | omega | exact ga_in _ _ _ | exact gg_in _ _ _ | (unfold InR; omega) | (unfold InL; omega) | (simp only [shC_0, shC_1, shC_2, shC_3, shC_4, shC_5, shC_6, shC_7, shC_8, shC_9, shC_10, shC_11, shC_12, shC_13, shC_14, shC_29, shC_58, shC_59, shC_60, shC_61, shC_62, shC_63, shC_64, shC_65, shC_66, shC_67, shC_68, shC_69, shC_70, shL_2, shL_3, shL_4, shL_5, shL_6, shL_8, shL_10, shL_12, shL_14, shL_29, shL_58, shL_60, shL_62, shL_63, shL_65, shL_66, shL_67, shL_68, shL_69, shL_70]; first | done | omega)) only [q22_25, pushR_I, pushR_L, pushR_R, pushR_V, InR_gg, InR_ga, InR_wr, InL_gl, InR_b, b01, b01_0, if_true, if_false, not_true_eq_false, not_false_eq_true, and_true, true_and, and_self, Sum.inl.injEq, one0, Bool.false_eq_true]
  refine CalK_E (m23 (d := d + 6) (n := n) (O := O) hT (by rw [tsame 1 0 (by omega) (by omega), hn]) (by rw [tsame 1 1 (by omega) (by omega), hO2])) (fun r χ hP => ?_)
  obtain ⟨rfl, hx, hA⟩ := hP
  have eHA : ∀ j, mxH τ n j = mxH σ n j := fun j => by
    unfold mxH
    rw [show ga τ 6 (j : Int) = ga σ 6 (j : Int) from tsame 6 _ (by omega) (by omega)]
    exact mxF_congr n 0 _ (fun l _ _ => by rw [tkT_same tsame])
  have eHA2 : ∀ j, HAf τ n O j = HAf σ n O j ∧ EAf τ n O j = EAf σ n O j := fun j => by
    unfold HAf EAf
    exact ⟨sumF_congr _ _ (fun i _ _ => by rw [eHA]), sumF_congr _ _ (fun i _ _ => by rw [eHA])⟩
  simp (disch := first | with_reducible assumption | omega | exact ga_in _ _ _ | exact gg_in _ _ _ | (unfold InR; omega) | (unfold InL; omega) | (simp only [shC_0, shC_1, shC_2, shC_3, shC_4, shC_5, shC_6, shC_7, shC_8, shC_9, shC_10, shC_11, shC_12, shC_13, shC_14, shC_29, shC_58, shC_59, shC_60, shC_61, shC_62, shC_63, shC_64, shC_65, shC_66, shC_67, shC_68, shC_69, shC_70, shL_2, shL_3, shL_4, shL_5, shL_6, shL_8, shL_10, shL_12, shL_14, shL_29, shL_58, shL_60, shL_62, shL_63, shL_65, shL_66, shL_67, shL_68, shL_69, shL_70]; first | done | omega)) only [q22_28, q22_29, q22_30, q22_31, q22_32, pushR_I, pushR_L, pushR_R, pushR_V, InR_gg, InR_ga, InR_wr, InL_gl, InR_b, b01, b01_0, if_true, if_false, not_true_eq_false, not_false_eq_true, and_true, true_and, and_self, Sum.inl.injEq, one0, Bool.false_eq_true]
  have hc := m25 (d := d + (5 - O)) (n := n) (O := O) (kn0 := fun l => ga σ 4 (l : Int)) hO' hn hO2 (fun l hl => (o4 (l : Int) (by omega) (by omega)).2.2.1) O 0 [] (fun l => ga σ 4 (l : Int)) 0 0 ([], -1, -1) χ (by omega) rfl (SAM_trans hs1 (SAM_mono hx (fun a b q => by unfold S689 at q; unfold S64; omega))) (fun j hj => by rw [(hA j hj).1, (hA j hj).2, (eHA2 j).1, (eHA2 j).2]; exact ⟨rfl, rfl⟩)
    (fun l hl => by rw [ga_nat, hx.1 _ _ (fun q => by unfold S689 at q; omega), ← ga_nat, e67 l (by omega)]) (fun l hl => ⟨Int.le_refl _, (o4 (l : Int) (by omega) (by omega)).2.2.2⟩) (fun j hj => absurd hj (Nat.not_lt_zero j)) ⟨by rw [hx.1 _ _ (fun q => by unfold S689 at q; omega), e646], by rw [hx.1 _ _ (fun q => by unfold S689 at q; omega), e647], fun j hj => absurd hj (Nat.not_lt_zero j)⟩ (by omega) (by omega) (fun j hj => absurd hj (Nat.not_lt_zero j))
  rw [show d + (5 - O) + O + 4 = d + 9 by omega, plcP_eq hb h0 O 0 [] _ 0 0 _ (by omega) (fun l hl => ⟨Int.le_refl _, (o4 (l : Int) (by omega) (by omega)).2.2.2⟩)] at hc
  refine CalK_E hc (fun r υ hP => ?_)
  obtain ⟨rfl, hS, hB⟩ := hP
  simp (disch := first | with_reducible assumption | omega | exact ga_in _ _ _ | exact gg_in _ _ _ | (unfold InR; omega) | (unfold InL; omega) | (simp only [shC_0, shC_1, shC_2, shC_3, shC_4, shC_5, shC_6, shC_7, shC_8, shC_9, shC_10, shC_11, shC_12, shC_13, shC_14, shC_29, shC_58, shC_59, shC_60, shC_61, shC_62, shC_63, shC_64, shC_65, shC_66, shC_67, shC_68, shC_69, shC_70, shL_2, shL_3, shL_4, shL_5, shL_6, shL_8, shL_10, shL_12, shL_14, shL_29, shL_58, shL_60, shL_62, shL_63, shL_65, shL_66, shL_67, shL_68, shL_69, shL_70]; first | done | omega)) only [q22_35, pushR_I, pushR_L, pushR_R, pushR_V, InR_gg, InR_ga, InR_wr, InL_gl, InR_b, b01, b01_0, if_true, if_false, not_true_eq_false, not_false_eq_true, and_true, true_and, and_self, Sum.inl.injEq, one0, Bool.false_eq_true]
  exact ⟨SAM_trans hs1 (SAM_trans (SAM_mono hx (fun a b q => by unfold S689 at q; unfold S64; omega)) (SAM_mono hS (fun a b q => by unfold SP at q; unfold S64; omega))), hB⟩
end RNDC
