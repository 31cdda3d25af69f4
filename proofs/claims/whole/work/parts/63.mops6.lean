-- the reference: arch, keep, years
section MOPS6
variable {d : Nat} {σ : SG} {S : Nat → Int → Int} {K : AV → SG → Prop} {Q : AV → SG → Prop} {g : Int → Int} {m : Nat}
theorem getG_r (hg : GOK g) {o i j : Int} (ho : 0 ≤ o ∧ o < g 28) (hi : 0 ≤ i ∧ i < g 13) : -10 ≤ getG g o i j ∧ getG g o i j ≤ 4013 := by
  have b := (tkG_b hg hi ho).2
  have b2 := (hg.2.2.2.1 i hi.1 hi.2).2.2
  unfold getG
  split <;> omega
theorem m189 (hr : RW σ 72 221 g) (hg : GOK g) {o i j : Int} (ho : 0 ≤ o ∧ o < g 28) (hi : 0 ≤ i ∧ i < g 13) (hj : InR j) : Cal (d + 6) 189 [.inr (.inr (.inl 71)), .inl o, .inl i, .inl j] σ (.inl (getG g o i j)) σ := by
  have hO := MOKn hr (by omega) hg
  have c221 : ((221 : Nat) : Int) = 221 := rfl
  have g1 := hg.1
  have g2 := hg.2.1
  have e13 : ga σ 72 13 = g 13 := hr 13 (by omega) (by omega)
  have e28 : ga σ 72 28 = g 28 := hr 28 (by omega) (by omega)
  have e6 : ga σ 72 (6 + i) = g (6 + i) := hr (6 + i) (by omega) (by omega)
  have et := tkM_G hr (by omega) hg hi ho
  have b := (tkG_b hg hi ho).2
  have b2 := (hg.2.2.2.1 i hi.1 hi.2).2.2
  refine Cal_in (ls := [.inr (.inr (.inl 71)), .inl o, .inl i, .inl j]) rfl mna_189 mml_189 mhl_189 rfl rfl ?_
  unfold getG
  by_cases c : i = j
  · simp (disch := first | with_reducible assumption | omega | exact ga_in _ _ _ | exact gg_in _ _ _ | (unfold InR; omega) | (unfold InL; omega) | (simp only [shC_71, shC_72, shC_73, shC_74, shC_75, shC_76, shC_77, shC_78, shC_79, shL_72, shL_73, shL_74, shL_75, shL_76, shL_77, shL_78, shL_79]; first | done | omega)) only [q189_0, q189_1, q189_2, q189_5, q189_7, q189_10, q189_11, q189_14, q189_15, q189_16, q189_19, q189_20, q189_23, q189_25, q189_26, q189_27, q189_28, q189_29, shC_71, shC_72, shC_73, shC_74, shC_75, shC_76, shC_77, shC_78, shC_79, shL_72, shL_73, shL_74, shL_75, shL_76, shL_77, shL_78, shL_79, shR_71_0, shR_71_1, shR_71_2, shR_71_3, shR_71_4, shR_71_5, shR_71_8, shR_71_15, c, pushR_I, pushR_L, pushR_R, pushR_V, InR_gg, InR_ga, InR_wr, InL_gl, InR_b, b01, b01_0, if_true, if_false, not_true_eq_false, not_false_eq_true, and_true, true_and, and_self, Sum.inl.injEq, one0, Bool.false_eq_true]
  · simp (disch := first | with_reducible assumption | omega | exact ga_in _ _ _ | exact gg_in _ _ _ | (unfold InR; omega) | (unfold InL; omega) | (simp only [shC_71, shC_72, shC_73, shC_74, shC_75, shC_76, shC_77, shC_78, shC_79, shL_72, shL_73, shL_74, shL_75, shL_76, shL_77, shL_78, shL_79]; first | done | omega)) only [q189_0, q189_1, q189_2, q189_5, q189_7, q189_10, q189_11, q189_14, q189_15, q189_16, q189_19, q189_20, q189_23, q189_25, q189_26, q189_27, q189_28, q189_29, shC_71, shC_72, shC_73, shC_74, shC_75, shC_76, shC_77, shC_78, shC_79, shL_72, shL_73, shL_74, shL_75, shL_76, shL_77, shL_78, shL_79, shR_71_0, shR_71_1, shR_71_2, shR_71_3, shR_71_4, shR_71_5, shR_71_8, shR_71_15, c221, c, k130 M72 hO, et, e6, pushR_I, pushR_L, pushR_R, pushR_V, InR_gg, InR_ga, InR_wr, InL_gl, InR_b, b01, b01_0, if_true, if_false, not_true_eq_false, not_false_eq_true, and_true, true_and, and_self, Sum.inl.injEq, one0, Bool.false_eq_true]
theorem k189 (hr : RW σ 72 221 g) (hg : GOK g) {o i j : Int} (ho : 0 ≤ o ∧ o < g 28) (hi : 0 ≤ i ∧ i < g 13) (hj : InR j) : CalK (d + 6) 189 [.inr (.inr (.inl 71)), .inl o, .inl i, .inl j] σ K = K (.inl (getG g o i j)) σ := CalK_eq (m189 hr hg ho hi hj)
def bstP (g : Int → Int) (o : Int) (i j : Nat) (x : Nat) : Bool := decide (¬ getG g o (i : Int) (j : Int) < getG g o (x : Int) (j : Int))
theorem l190 (hr : RW σ 72 221 g) (hg : GOK g) {o : Int} (ho : 0 ≤ o ∧ o < g 28) {i j : Nat} (hi : (i : Int) < g 13) (hj : (j : Int) < g 13) : ∀ (n x : Nat) (a : Int), (x : Int) + n = g 13 → (a = 0 ∨ a = 1) →
    Wp none (d + 6) 190 6 [.inr (.inr (.inl 71)), .inl o, .inl (i : Int), .inl (j : Int), .inl a, .inl (x : Int)] [] σ Q = Q (.inl (flg (bstP g o i j) x n a)) σ := by
  have c221 : ((221 : Nat) : Int) = 221 := rfl
  have e13 : ga σ 72 13 = g 13 := hr 13 (by omega) (by omega)
  have g1 := hg.1
  have r1 := getG_r hg ho (i := (i : Int)) (j := (j : Int)) ⟨by omega, hi⟩
  intro n
  induction n with
  | zero =>
    intro x a hx ha
    have e : g 13 ≤ (x : Int) := by omega
    simp (disch := first | with_reducible assumption | omega | exact ga_in _ _ _ | exact gg_in _ _ _ | (unfold InR; omega) | (unfold InL; omega) | (simp only [shC_71, shC_72, shC_73, shC_74, shC_75, shC_76, shC_77, shC_78, shC_79, shL_72, shL_73, shL_74, shL_75, shL_76, shL_77, shL_78, shL_79]; first | done | omega)) only [q190_6, q190_8, q190_9, q190_12, q190_14, q190_15, q190_54, q190_56, shC_71, shC_72, shC_73, shC_74, shC_75, shC_76, shC_77, shC_78, shC_79, shL_72, shL_73, shL_74, shL_75, shL_76, shL_77, shL_78, shL_79, shR_71_0, shR_71_1, shR_71_2, shR_71_3, shR_71_4, shR_71_5, shR_71_8, shR_71_15, c221, e13, e, flg, pushR_I, pushR_L, pushR_R, pushR_V, InR_gg, InR_ga, InR_wr, InL_gl, InR_b, b01, b01_0, if_true, if_false, not_true_eq_false, not_false_eq_true, and_true, true_and, and_self, Sum.inl.injEq, one0, Bool.false_eq_true]
  | succ n ih =>
    intro x a hx ha
    have e : ¬ g 13 ≤ (x : Int) := by omega
    have r2 := getG_r hg ho (i := (x : Int)) (j := (j : Int)) ⟨by omega, by omega⟩
    simp only [flg]
    rcases ha with rfl | rfl
    · simp (disch := first | with_reducible assumption | omega | exact ga_in _ _ _ | exact gg_in _ _ _ | (unfold InR; omega) | (unfold InL; omega) | (simp only [shC_71, shC_72, shC_73, shC_74, shC_75, shC_76, shC_77, shC_78, shC_79, shL_72, shL_73, shL_74, shL_75, shL_76, shL_77, shL_78, shL_79]; first | done | omega)) only [q190_6, q190_8, q190_9, q190_12, q190_14, q190_15, q190_18, q190_20, q190_23, q190_24, q190_25, q190_27, q190_28, q190_31, q190_32, q190_33, q190_34, q190_35, q190_38, q190_41, q190_42, q190_45, q190_46, q190_48, shC_71, shC_72, shC_73, shC_74, shC_75, shC_76, shC_77, shC_78, shC_79, shL_72, shL_73, shL_74, shL_75, shL_76, shL_77, shL_78, shL_79, shR_71_0, shR_71_1, shR_71_2, shR_71_3, shR_71_4, shR_71_5, shR_71_8, shR_71_15, c221, e13, e, false_and, pushR_I, pushR_L, pushR_R, pushR_V, InR_gg, InR_ga, InR_wr, InL_gl, InR_b, b01, b01_0, if_true, if_false, not_true_eq_false, not_false_eq_true, and_true, true_and, and_self, Sum.inl.injEq, one0, Bool.false_eq_true]
      rw [q190_51]
      exact ih (x + 1) 0 (by omega) (Or.inl rfl)
    · by_cases c : getG g o (i : Int) (j : Int) < getG g o (x : Int) (j : Int)
      · have hb : bstP g o i j x = false := decide_eq_false (fun q => q c)
        simp (disch := first | with_reducible assumption | omega | exact ga_in _ _ _ | exact gg_in _ _ _ | (unfold InR; omega) | (unfold InL; omega) | (simp only [shC_71, shC_72, shC_73, shC_74, shC_75, shC_76, shC_77, shC_78, shC_79, shL_72, shL_73, shL_74, shL_75, shL_76, shL_77, shL_78, shL_79]; first | done | omega)) only [q190_6, q190_8, q190_9, q190_12, q190_14, q190_15, q190_18, q190_20, q190_23, q190_24, q190_25, q190_27, q190_28, q190_31, q190_32, q190_33, q190_34, q190_35, q190_38, q190_41, q190_42, q190_45, q190_46, q190_48, shC_71, shC_72, shC_73, shC_74, shC_75, shC_76, shC_77, shC_78, shC_79, shL_72, shL_73, shL_74, shL_75, shL_76, shL_77, shL_78, shL_79, shR_71_0, shR_71_1, shR_71_2, shR_71_3, shR_71_4, shR_71_5, shR_71_8, shR_71_15, c221, e13, e, k189 hr hg ho, c, hb, pushR_I, pushR_L, pushR_R, pushR_V, InR_gg, InR_ga, InR_wr, InL_gl, InR_b, b01, b01_0, if_true, if_false, not_true_eq_false, not_false_eq_true, and_true, true_and, and_self, Sum.inl.injEq, one0, Bool.false_eq_true]
        rw [q190_51]
        exact ih (x + 1) 0 (by omega) (Or.inl rfl)
      · have hb : bstP g o i j x = true := decide_eq_true c
        simp (disch := first | with_reducible assumption | omega | exact ga_in _ _ _ | exact gg_in _ _ _ | (unfold InR; omega) | (unfold InL; omega) | (simp only [shC_71, shC_72, shC_73, shC_74, shC_75, shC_76, shC_77, shC_78, shC_79, shL_72, shL_73, shL_74, shL_75, shL_76, shL_77, shL_78, shL_79]; first | done | omega)) only [q190_6, q190_8, q190_9, q190_12, q190_14, q190_15, q190_18, q190_20, q190_23, q190_24, q190_25, q190_27, q190_28, q190_31, q190_32, q190_33, q190_34, q190_35, q190_38, q190_41, q190_42, q190_45, q190_46, q190_48, shC_71, shC_72, shC_73, shC_74, shC_75, shC_76, shC_77, shC_78, shC_79, shL_72, shL_73, shL_74, shL_75, shL_76, shL_77, shL_78, shL_79, shR_71_0, shR_71_1, shR_71_2, shR_71_3, shR_71_4, shR_71_5, shR_71_8, shR_71_15, c221, e13, e, k189 hr hg ho, c, hb, pushR_I, pushR_L, pushR_R, pushR_V, InR_gg, InR_ga, InR_wr, InL_gl, InR_b, b01, b01_0, if_true, if_false, not_true_eq_false, not_false_eq_true, and_true, true_and, and_self, Sum.inl.injEq, one0, Bool.false_eq_true]
        rw [q190_51]
        exact ih (x + 1) 1 (by omega) (Or.inr rfl)
theorem m190 (hr : RW σ 72 221 g) (hg : GOK g) {o : Int} (ho : 0 ≤ o ∧ o < g 28) {i j : Nat} (hi : (i : Int) < g 13) (hj : (j : Int) < g 13) : Cal (d + 7) 190 [.inr (.inr (.inl 71)), .inl o, .inl (i : Int), .inl (j : Int)] σ (.inl (if bstG g o i j = true then 1 else 0)) σ := by
  have g1 := hg.1
  refine Cal_in (ls := [.inr (.inr (.inl 71)), .inl o, .inl (i : Int), .inl (j : Int), aU, aU]) rfl mna_190 mml_190 mhl_190 rfl rfl ?_
  simp (disch := first | with_reducible assumption | omega | exact ga_in _ _ _ | exact gg_in _ _ _ | (unfold InR; omega) | (unfold InL; omega) | (simp only [shC_71, shC_72, shC_73, shC_74, shC_75, shC_76, shC_77, shC_78, shC_79, shL_72, shL_73, shL_74, shL_75, shL_76, shL_77, shL_78, shL_79]; first | done | omega)) only [q190_0, q190_1, q190_3, q190_4, pushR_I, pushR_L, pushR_R, pushR_V, InR_gg, InR_ga, InR_wr, InL_gl, InR_b, b01, b01_0, if_true, if_false, not_true_eq_false, not_false_eq_true, and_true, true_and, and_self, Sum.inl.injEq, one0, Bool.false_eq_true]
  have e : (if bstG g o i j = true then (1 : Int) else 0) = flg (bstP g o i j) 0 (g 13).toNat 1 := by rw [flg_1]; rfl
  rw [e]
  exact (l190 (d := d) hr hg ho hi hj (g 13).toNat 0 1 (by omega) (Or.inr rfl)).mpr ⟨rfl, rfl⟩
theorem k190 (hr : RW σ 72 221 g) (hg : GOK g) {o : Int} (ho : 0 ≤ o ∧ o < g 28) {i j : Nat} (hi : (i : Int) < g 13) (hj : (j : Int) < g 13) : CalK (d + 7) 190 [.inr (.inr (.inl 71)), .inl o, .inl (i : Int), .inl (j : Int)] σ K = K (.inl (if bstG g o i j = true then 1 else 0)) σ := CalK_eq (m190 hr hg ho hi hj)
theorem l191j (hr : RW σ 72 221 g) (hg : GOK g) {o k : Int} (ho : 0 ≤ o ∧ o < g 28) (hk : InR k) {N : Nat} (hN : g 13 = (N : Int)) {i : Nat} (hi : i < N) : ∀ (n j : Nat) (r : Int), j + n = N → 0 ≤ r ∧ r ≤ 7 * i + j →
    Wp none (d + 19) 191 38 [.inr (.inr (.inl 71)), .inl o, .inl k, .inl r, .inl (i : Int), .inl (j : Int)] [] σ Q = (match arcJ (fun i j => bstG g o i j && bstG g o j i) k i n j r with
      | .inl v => Q (.inl v) σ
      | .inr r' => Wp none (d + 19) 191 97 [.inr (.inr (.inl 71)), .inl o, .inl k, .inl r', .inl (i : Int), .inl (N : Int)] [] σ Q) := by
  have c221 : ((221 : Nat) : Int) = 221 := rfl
  have e13 : ga σ 72 13 = (N : Int) := (hr 13 (by omega) (by omega)).trans hN
  have g1 := hg.1
  intro n
  induction n with
  | zero =>
    intro j r hj hr2
    have e : j = N := by omega
    subst e
    simp (disch := first | with_reducible assumption | omega | exact ga_in _ _ _ | exact gg_in _ _ _ | (unfold InR; omega) | (unfold InL; omega) | (simp only [shC_71, shC_72, shC_73, shC_74, shC_75, shC_76, shC_77, shC_78, shC_79, shL_72, shL_73, shL_74, shL_75, shL_76, shL_77, shL_78, shL_79]; first | done | omega)) only [q191_38, q191_40, q191_41, q191_44, q191_46, q191_47, shC_71, shC_72, shC_73, shC_74, shC_75, shC_76, shC_77, shC_78, shC_79, shL_72, shL_73, shL_74, shL_75, shL_76, shL_77, shL_78, shL_79, shR_71_0, shR_71_1, shR_71_2, shR_71_3, shR_71_4, shR_71_5, shR_71_8, shR_71_15, c221, e13, Int.le_refl, arcJ, pushR_I, pushR_L, pushR_R, pushR_V, InR_gg, InR_ga, InR_wr, InL_gl, InR_b, b01, b01_0, if_true, if_false, not_true_eq_false, not_false_eq_true, and_true, true_and, and_self, Sum.inl.injEq, one0, Bool.false_eq_true]
  | succ n ih =>
    intro j r hj hr2
    have e : ¬ (N : Int) ≤ (j : Int) := by omega
    have K1 : ∀ K, CalK (d + 19) 190 [.inr (.inr (.inl 71)), .inl o, .inl (i : Int), .inl (j : Int)] σ K = K (.inl (if bstG g o i j = true then 1 else 0)) σ := fun K => k190 (d := d + 12) hr hg ho (by omega) (by omega)
    have K2 : ∀ K, CalK (d + 19) 190 [.inr (.inr (.inl 71)), .inl o, .inl (j : Int), .inl (i : Int)] σ K = K (.inl (if bstG g o j i = true then 1 else 0)) σ := fun K => k190 (d := d + 12) hr hg ho (by omega) (by omega)
    by_cases c1 : bstG g o i j = true
    · by_cases c2 : bstG g o j i = true
      · by_cases c3 : r = k
        · simp (disch := first | with_reducible assumption | omega | exact ga_in _ _ _ | exact gg_in _ _ _ | (unfold InR; omega) | (unfold InL; omega) | (simp only [shC_71, shC_72, shC_73, shC_74, shC_75, shC_76, shC_77, shC_78, shC_79, shL_72, shL_73, shL_74, shL_75, shL_76, shL_77, shL_78, shL_79]; first | done | omega)) only [q191_38, q191_40, q191_41, q191_44, q191_46, q191_47, q191_50, q191_51, q191_52, q191_54, q191_56, q191_59, q191_62, q191_63, q191_64, q191_66, q191_68, q191_71, q191_74, q191_75, q191_76, q191_79, q191_81, q191_83, q191_84, q191_86, q191_87, q191_88, q191_91, shC_71, shC_72, shC_73, shC_74, shC_75, shC_76, shC_77, shC_78, shC_79, shL_72, shL_73, shL_74, shL_75, shL_76, shL_77, shL_78, shL_79, shR_71_0, shR_71_1, shR_71_2, shR_71_3, shR_71_4, shR_71_5, shR_71_8, shR_71_15, c221, e13, e, K1, K2, c1, c2, c3, arcJ, Bool.and_self, pushR_I, pushR_L, pushR_R, pushR_V, InR_gg, InR_ga, InR_wr, InL_gl, InR_b, b01, b01_0, if_true, if_false, not_true_eq_false, not_false_eq_true, and_true, true_and, and_self, Sum.inl.injEq, one0, Bool.false_eq_true]
        · simp (disch := first | with_reducible assumption | omega | exact ga_in _ _ _ | exact gg_in _ _ _ | (unfold InR; omega) | (unfold InL; omega) | (simp only [shC_71, shC_72, shC_73, shC_74, shC_75, shC_76, shC_77, shC_78, shC_79, shL_72, shL_73, shL_74, shL_75, shL_76, shL_77, shL_78, shL_79]; first | done | omega)) only [q191_38, q191_40, q191_41, q191_44, q191_46, q191_47, q191_50, q191_51, q191_52, q191_54, q191_56, q191_59, q191_62, q191_63, q191_64, q191_66, q191_68, q191_71, q191_74, q191_75, q191_76, q191_79, q191_81, q191_83, q191_84, q191_86, q191_87, q191_88, q191_91, shC_71, shC_72, shC_73, shC_74, shC_75, shC_76, shC_77, shC_78, shC_79, shL_72, shL_73, shL_74, shL_75, shL_76, shL_77, shL_78, shL_79, shR_71_0, shR_71_1, shR_71_2, shR_71_3, shR_71_4, shR_71_5, shR_71_8, shR_71_15, c221, e13, e, K1, K2, c1, c2, c3, arcJ, Bool.and_self, pushR_I, pushR_L, pushR_R, pushR_V, InR_gg, InR_ga, InR_wr, InL_gl, InR_b, b01, b01_0, if_true, if_false, not_true_eq_false, not_false_eq_true, and_true, true_and, and_self, Sum.inl.injEq, one0, Bool.false_eq_true]
          rw [q191_94]
          exact ih (j + 1) (r + 1) (by omega) (by omega)
      · simp (disch := first | with_reducible assumption | omega | exact ga_in _ _ _ | exact gg_in _ _ _ | (unfold InR; omega) | (unfold InL; omega) | (simp only [shC_71, shC_72, shC_73, shC_74, shC_75, shC_76, shC_77, shC_78, shC_79, shL_72, shL_73, shL_74, shL_75, shL_76, shL_77, shL_78, shL_79]; first | done | omega)) only [q191_38, q191_40, q191_41, q191_44, q191_46, q191_47, q191_50, q191_51, q191_52, q191_54, q191_56, q191_59, q191_62, q191_63, q191_64, q191_66, q191_68, q191_71, q191_74, q191_75, q191_76, q191_79, q191_81, q191_83, q191_84, q191_86, q191_87, q191_88, q191_91, shC_71, shC_72, shC_73, shC_74, shC_75, shC_76, shC_77, shC_78, shC_79, shL_72, shL_73, shL_74, shL_75, shL_76, shL_77, shL_78, shL_79, shR_71_0, shR_71_1, shR_71_2, shR_71_3, shR_71_4, shR_71_5, shR_71_8, shR_71_15, c221, e13, e, K1, K2, c1, c2, arcJ, Bool.and_eq_true, pushR_I, pushR_L, pushR_R, pushR_V, InR_gg, InR_ga, InR_wr, InL_gl, InR_b, b01, b01_0, if_true, if_false, not_true_eq_false, not_false_eq_true, and_true, true_and, and_self, Sum.inl.injEq, one0, Bool.false_eq_true]
        rw [q191_94]
        exact ih (j + 1) r (by omega) (by omega)
    · simp (disch := first | with_reducible assumption | omega | exact ga_in _ _ _ | exact gg_in _ _ _ | (unfold InR; omega) | (unfold InL; omega) | (simp only [shC_71, shC_72, shC_73, shC_74, shC_75, shC_76, shC_77, shC_78, shC_79, shL_72, shL_73, shL_74, shL_75, shL_76, shL_77, shL_78, shL_79]; first | done | omega)) only [q191_38, q191_40, q191_41, q191_44, q191_46, q191_47, q191_50, q191_51, q191_52, q191_54, q191_56, q191_59, q191_62, q191_63, q191_64, q191_66, q191_68, q191_71, q191_74, q191_75, q191_76, q191_79, q191_81, q191_83, q191_84, q191_86, q191_87, q191_88, q191_91, shC_71, shC_72, shC_73, shC_74, shC_75, shC_76, shC_77, shC_78, shC_79, shL_72, shL_73, shL_74, shL_75, shL_76, shL_77, shL_78, shL_79, shR_71_0, shR_71_1, shR_71_2, shR_71_3, shR_71_4, shR_71_5, shR_71_8, shR_71_15, c221, e13, e, K1, c1, arcJ, Bool.and_eq_true, false_and, pushR_I, pushR_L, pushR_R, pushR_V, InR_gg, InR_ga, InR_wr, InL_gl, InR_b, b01, b01_0, if_true, if_false, not_true_eq_false, not_false_eq_true, and_true, true_and, and_self, Sum.inl.injEq, one0, Bool.false_eq_true]
      rw [q191_94]
      exact ih (j + 1) r (by omega) (by omega)
theorem l191 (hr : RW σ 72 221 g) (hg : GOK g) {o k : Int} (ho : 0 ≤ o ∧ o < g 28) (hk : InR k) (hk1 : -1 ≤ k) {N : Nat} (hN : g 13 = (N : Int)) : ∀ (n i : Nat) (r : Int) (w5 : AV), i + n = N → 0 ≤ r ∧ r ≤ 7 * i →
    Wp none (d + 19) 191 23 [.inr (.inr (.inl 71)), .inl o, .inl k, .inl r, .inl (i : Int), w5] [] σ Q = Q (.inl (arcV (arcI (fun i j => bstG g o i j && bstG g o j i) k N n i r) k)) σ := by
  have c221 : ((221 : Nat) : Int) = 221 := rfl
  have e13 : ga σ 72 13 = (N : Int) := (hr 13 (by omega) (by omega)).trans hN
  have g1 := hg.1
  intro n
  induction n with
  | zero =>
    intro i r w5 hi hr2
    have e : (N : Int) ≤ (i : Int) := by omega
    by_cases c : k = -1
    · have c' : ¬ 0 ≤ k := by omega
      have c2 : ¬ (0 : Int) ≤ -1 := by omega
      simp (disch := first | with_reducible assumption | omega | exact ga_in _ _ _ | exact gg_in _ _ _ | (unfold InR; omega) | (unfold InL; omega) | (simp only [shC_71, shC_72, shC_73, shC_74, shC_75, shC_76, shC_77, shC_78, shC_79, shL_72, shL_73, shL_74, shL_75, shL_76, shL_77, shL_78, shL_79]; first | done | omega)) only [q191_23, q191_25, q191_26, q191_29, q191_31, q191_32, q191_103, q191_104, q191_107, q191_108, q191_111, q191_113, shC_71, shC_72, shC_73, shC_74, shC_75, shC_76, shC_77, shC_78, shC_79, shL_72, shL_73, shL_74, shL_75, shL_76, shL_77, shL_78, shL_79, shR_71_0, shR_71_1, shR_71_2, shR_71_3, shR_71_4, shR_71_5, shR_71_8, shR_71_15, c221, e13, e, c, c2, arcI, arcV, pushR_I, pushR_L, pushR_R, pushR_V, InR_gg, InR_ga, InR_wr, InL_gl, InR_b, b01, b01_0, if_true, if_false, not_true_eq_false, not_false_eq_true, and_true, true_and, and_self, Sum.inl.injEq, one0, Bool.false_eq_true]
    · have c' : 0 ≤ k := by omega
      simp (disch := first | with_reducible assumption | omega | exact ga_in _ _ _ | exact gg_in _ _ _ | (unfold InR; omega) | (unfold InL; omega) | (simp only [shC_71, shC_72, shC_73, shC_74, shC_75, shC_76, shC_77, shC_78, shC_79, shL_72, shL_73, shL_74, shL_75, shL_76, shL_77, shL_78, shL_79]; first | done | omega)) only [q191_23, q191_25, q191_26, q191_29, q191_31, q191_32, q191_103, q191_104, q191_107, q191_108, q191_111, q191_113, shC_71, shC_72, shC_73, shC_74, shC_75, shC_76, shC_77, shC_78, shC_79, shL_72, shL_73, shL_74, shL_75, shL_76, shL_77, shL_78, shL_79, shR_71_0, shR_71_1, shR_71_2, shR_71_3, shR_71_4, shR_71_5, shR_71_8, shR_71_15, c221, e13, e, c, c', arcI, arcV, pushR_I, pushR_L, pushR_R, pushR_V, InR_gg, InR_ga, InR_wr, InL_gl, InR_b, b01, b01_0, if_true, if_false, not_true_eq_false, not_false_eq_true, and_true, true_and, and_self, Sum.inl.injEq, one0, Bool.false_eq_true]
  | succ n ih =>
    intro i r w5 hi hr2
    have e : ¬ (N : Int) ≤ (i : Int) := by omega
    simp (disch := first | with_reducible assumption | omega | exact ga_in _ _ _ | exact gg_in _ _ _ | (unfold InR; omega) | (unfold InL; omega) | (simp only [shC_71, shC_72, shC_73, shC_74, shC_75, shC_76, shC_77, shC_78, shC_79, shL_72, shL_73, shL_74, shL_75, shL_76, shL_77, shL_78, shL_79]; first | done | omega)) only [q191_23, q191_25, q191_26, q191_29, q191_31, q191_32, q191_35, q191_36, shC_71, shC_72, shC_73, shC_74, shC_75, shC_76, shC_77, shC_78, shC_79, shL_72, shL_73, shL_74, shL_75, shL_76, shL_77, shL_78, shL_79, shR_71_0, shR_71_1, shR_71_2, shR_71_3, shR_71_4, shR_71_5, shR_71_8, shR_71_15, c221, e13, e, pushR_I, pushR_L, pushR_R, pushR_V, InR_gg, InR_ga, InR_wr, InL_gl, InR_b, b01, b01_0, if_true, if_false, not_true_eq_false, not_false_eq_true, and_true, true_and, and_self, Sum.inl.injEq, one0, Bool.false_eq_true]
    refine (l191j (d := d) hr hg ho hk hN (i := i) (by omega) N 0 r (by omega) (by omega)).trans ?_
    simp only [arcI]
    cases hA : arcJ (fun i j => bstG g o i j && bstG g o j i) k i N 0 r with
    | inl v => rfl
    | inr r' =>
      have hb := arcJ_b N 0 r r' hr2.1 hA
      simp (disch := first | with_reducible assumption | omega | exact ga_in _ _ _ | exact gg_in _ _ _ | (unfold InR; omega) | (unfold InL; omega) | (simp only [shC_71, shC_72, shC_73, shC_74, shC_75, shC_76, shC_77, shC_78, shC_79, shL_72, shL_73, shL_74, shL_75, shL_76, shL_77, shL_78, shL_79]; first | done | omega)) only [q191_97, pushR_I, pushR_L, pushR_R, pushR_V, InR_gg, InR_ga, InR_wr, InL_gl, InR_b, b01, b01_0, if_true, if_false, not_true_eq_false, not_false_eq_true, and_true, true_and, and_self, Sum.inl.injEq, one0, Bool.false_eq_true]
      rw [q191_100]
      exact ih (i + 1) r' _ (by omega) (by omega)
theorem o191 (h : MR σ S) (hS : SOK S) {o k : Int} (ho : InR o) (hk : InR k) : CalE (d + 20) 191 [.inr (.inr (.inl 71)), .inl o, .inl k] σ (OPM σ (fArch S o k)) := by
  have hO := MOKn h.1 (by omega) hS.1
  have e28 : ga σ 72 28 = S 0 28 := h.1 28 (by omega) (by omega)
  have g13 := hS.1.1
  refine Cal_ex (ls := [.inr (.inr (.inl 71)), .inl o, .inl k, aU, aU, aU]) rfl mna_191 mml_191 mhl_191 rfl rfl ?_
  unfold fArch
  by_cases h1 : 0 ≤ o ∧ o < ga σ 72 28
  · have h1' : 0 ≤ o ∧ o < S 0 28 := by omega
    by_cases h2 : -1 ≤ k
    · rw [if_pos ⟨h1', h2⟩]
      simp (disch := first | with_reducible assumption | omega | exact ga_in _ _ _ | exact gg_in _ _ _ | (unfold InR; omega) | (unfold InL; omega) | (simp only [shC_71, shC_72, shC_73, shC_74, shC_75, shC_76, shC_77, shC_78, shC_79, shL_72, shL_73, shL_74, shL_75, shL_76, shL_77, shL_78, shL_79]; first | done | omega)) only [q191_0, q191_1, q191_2, q191_5, q191_8, q191_9, q191_10, q191_13, q191_14, q191_17, q191_18, q191_19, q191_20, q191_21, shC_71, shC_72, shC_73, shC_74, shC_75, shC_76, shC_77, shC_78, shC_79, shL_72, shL_73, shL_74, shL_75, shL_76, shL_77, shL_78, shL_79, shR_71_0, shR_71_1, shR_71_2, shR_71_3, shR_71_4, shR_71_5, shR_71_8, shR_71_15, k123 hO.2.1, h1, h2, pushR_I, pushR_L, pushR_R, pushR_V, InR_gg, InR_ga, InR_wr, InL_gl, InR_b, b01, b01_0, if_true, if_false, not_true_eq_false, not_false_eq_true, and_true, true_and, and_self, Sum.inl.injEq, one0, Bool.false_eq_true]
      exact (l191 (d := d) h.1 hS.1 h1' hk h2 (N := (S 0 13).toNat) (by omega) (S 0 13).toNat 0 0 _ (by omega) (by omega)).mpr (MO_id h)
    · rw [if_neg (fun q => h2 q.2)]
      simp (disch := first | with_reducible assumption | omega | exact ga_in _ _ _ | exact gg_in _ _ _ | (unfold InR; omega) | (unfold InL; omega) | (simp only [shC_71, shC_72, shC_73, shC_74, shC_75, shC_76, shC_77, shC_78, shC_79, shL_72, shL_73, shL_74, shL_75, shL_76, shL_77, shL_78, shL_79]; first | done | omega)) only [q191_0, q191_1, q191_2, q191_5, q191_8, q191_9, q191_10, q191_13, q191_14, q191_17, q191_18, q191_19, q191_20, q191_21, shC_71, shC_72, shC_73, shC_74, shC_75, shC_76, shC_77, shC_78, shC_79, shL_72, shL_73, shL_74, shL_75, shL_76, shL_77, shL_78, shL_79, shR_71_0, shR_71_1, shR_71_2, shR_71_3, shR_71_4, shR_71_5, shR_71_8, shR_71_15, k123 hO.2.1, h1, h2, k121, pushR_I, pushR_L, pushR_R, pushR_V, InR_gg, InR_ga, InR_wr, InL_gl, InR_b, b01, b01_0, if_true, if_false, not_true_eq_false, not_false_eq_true, and_true, true_and, and_self, Sum.inl.injEq, one0, Bool.false_eq_true]
      exact MO_badT h
  · rw [if_neg (fun q => h1 (by have := q.1; unfold hasO at this; omega))]
    simp (disch := first | with_reducible assumption | omega | exact ga_in _ _ _ | exact gg_in _ _ _ | (unfold InR; omega) | (unfold InL; omega) | (simp only [shC_71, shC_72, shC_73, shC_74, shC_75, shC_76, shC_77, shC_78, shC_79, shL_72, shL_73, shL_74, shL_75, shL_76, shL_77, shL_78, shL_79]; first | done | omega)) only [q191_0, q191_1, q191_2, q191_5, q191_8, q191_9, q191_10, q191_13, q191_14, q191_17, q191_18, q191_19, q191_20, q191_21, shC_71, shC_72, shC_73, shC_74, shC_75, shC_76, shC_77, shC_78, shC_79, shL_72, shL_73, shL_74, shL_75, shL_76, shL_77, shL_78, shL_79, shR_71_0, shR_71_1, shR_71_2, shR_71_3, shR_71_4, shR_71_5, shR_71_8, shR_71_15, k123 hO.2.1, h1, k121, pushR_I, pushR_L, pushR_R, pushR_V, InR_gg, InR_ga, InR_wr, InL_gl, InR_b, b01, b01_0, if_true, if_false, not_true_eq_false, not_false_eq_true, and_true, true_and, and_self, Sum.inl.injEq, one0, Bool.false_eq_true]
    exact MO_badT h
/-- keep, by rows -/
def kpR (l o : Int) : Nat → (Int → Int) → Int → Int
  | 0, _, a => a
  | n + 1, g, a => kpR l o n (rDay (rSay g l o)) (if ¬ a = 0 ∧ 20 ≤ rDay (rSay g l o) (1 + o) then 1 else 0)
theorem kpR_0 {l o : Int} : ∀ (n : Nat) (g : Int → Int), kpR l o n g 0 = 0 := by
  intro n
  induction n with
  | zero => intro g; rfl
  | succ n ih => intro g; simp only [kpR, not_true_eq_false, false_and, if_false]; exact ih _
theorem ds_1 {l o : Int} (hl : 0 ≤ l ∧ l < 7) (ho : 0 ≤ o ∧ o < 5) : rDay (rSay g l o) (1 + o) = coI (heI (g (1 + o)) (tkG g o l)) 1 ∧ rDay (rSay g l o) (6 + l) = kn1 (g (6 + l)) ∧ rDay (rSay g l o) 0 = g 0 + 1 ∧ ∀ i : Int, 13 ≤ i → rDay (rSay g l o) i = g i := by
  have s1 : rSay g l o (1 + o) = heI (g (1 + o)) (tkG g o l) := by unfold rSay; rw [if_neg (by omega), if_pos rfl]
  have s2 : rSay g l o (6 + l) = kn1 (g (6 + l)) := by unfold rSay; rw [if_pos rfl]
  have s3 : rSay g l o 0 = g 0 := by unfold rSay; rw [if_neg (by omega), if_neg (by omega)]
  have s4 : ∀ i : Int, 13 ≤ i → rSay g l o i = g i := fun i hi => by unfold rSay; rw [if_neg (by omega), if_neg (by omega)]
  refine ⟨?_, ?_, ?_, fun i hi => ?_⟩
  · unfold rDay; rw [if_pos ⟨by omega, by omega⟩, s1]
  · rw [rDay_hi (by omega), s2]
  · rw [rDay_0, s3]
  · rw [rDay_hi (by omega), s4 i hi]
theorem kpR_kp {l o kd u ok dd : Int} (hl : 0 ≤ l ∧ l < 7) (ho : 0 ≤ o ∧ o < 5) : ∀ (n i : Nat) (g : Int → Int), g (14 + l) = kd → g (21 + l) = u → g (29 + o) = ok → g 0 = dd + (i : Int) → kpR l o n g 1 = if kpF kd u ok dd i n (g (1 + o)) (g (6 + l)) = true then 1 else 0 := by
  intro n
  induction n with
  | zero => intro i g _ _ _ _; simp [kpR, kpF]
  | succ n ih =>
    intro i g h1 h2 h3 h4
    obtain ⟨d1, d2, d3, d4⟩ := ds_1 (g := g) hl ho
    have et : tkG g o l = tkI ok (ltI kd u (g (6 + l)) (dd + (i : Int))) (g (1 + o)) := by unfold tkG ltG; rw [h1, h2, h3, h4]
    have hi := ih (i + 1) (rDay (rSay g l o)) (by rw [d4 _ (by omega), h1]) (by rw [d4 _ (by omega), h2]) (by rw [d4 _ (by omega), h3]) (by rw [d3, h4]; omega)
    rw [d1, d2, et] at hi
    simp only [kpR, one0, not_false_eq_true, true_and]
    rw [d1, et]
    by_cases c : coI (heI (g (1 + o)) (tkI ok (ltI kd u (g (6 + l)) (dd + (i : Int))) (g (1 + o)))) 1 < 20
    · have e : kpF kd u ok dd i (n + 1) (g (1 + o)) (g (6 + l)) = false := by simp only [kpF]; rw [if_pos c]
      rw [if_neg (by omega), kpR_0, e]
      rfl
    · have e : kpF kd u ok dd i (n + 1) (g (1 + o)) (g (6 + l)) = kpF kd u ok dd (i + 1) n (coI (heI (g (1 + o)) (tkI ok (ltI kd u (g (6 + l)) (dd + (i : Int))) (g (1 + o)))) 1) (kn1 (g (6 + l))) := by simp only [kpF]; rw [if_neg c]
      rw [if_pos (by omega), hi, e]
theorem l173i {o l N : Int} (hN : N ≤ 9) {G : Int → Int} (hG : GOK G) (hl : 0 ≤ l ∧ l < G 13) (ho : 0 ≤ o ∧ o < G 28) : ∀ (n i : Nat) (a : Int) (g : Int → Int) (τ : SG), (i : Int) + n = N → RW τ 74 34 g → GOK g → g 0 ≤ 9999 + i → (g 13 = G 13 ∧ g 28 = G 28) → ONE 74 σ τ → (a = 0 ∨ a = 1) →
    (∀ τ', ONE 74 σ τ' → Wp none (d + 19) 173 99 [.inr (.inr (.inl 71)), .inl o, .inl N, .inl l, .inl (kpR l o n g a), .inl N] [] τ' Q) →
    Wp none (d + 19) 173 46 [.inr (.inr (.inl 71)), .inl o, .inl N, .inl l, .inl a, .inl (i : Int)] [] τ Q := by
  have c221 : ((221 : Nat) : Int) = 221 := rfl
  have G1 := hG.1
  have G2 := hG.2.1
  intro n
  induction n with
  | zero =>
    intro i a g τ hi hr hg hd he hs ha hq
    have e : N ≤ (i : Int) := by omega
    have ei : (i : Int) = N := by omega
    simp (disch := first | with_reducible assumption | omega | exact ga_in _ _ _ | exact gg_in _ _ _ | (unfold InR; omega) | (unfold InL; omega) | (simp only [shC_71, shC_72, shC_73, shC_74, shC_75, shC_76, shC_77, shC_78, shC_79, shL_72, shL_73, shL_74, shL_75, shL_76, shL_77, shL_78, shL_79]; first | done | omega)) only [q173_46, q173_48, q173_49, e, pushR_I, pushR_L, pushR_R, pushR_V, InR_gg, InR_ga, InR_wr, InL_gl, InR_b, b01, b01_0, if_true, if_false, not_true_eq_false, not_false_eq_true, and_true, true_and, and_self, Sum.inl.injEq, one0, Bool.false_eq_true]
    rw [ei]
    exact hq τ hs
  | succ n ih =>
    intro i a g τ hi hr hg hd he hs ha hq
    have e : ¬ N ≤ (i : Int) := by omega
    have hO := MOKn hr (by omega) hg
    have e13 : ga τ 74 13 = g 13 := hr 13 (by omega) (by omega)
    have e28 : ga τ 74 28 = g 28 := hr 28 (by omega) (by omega)
    have hl' : 0 ≤ l ∧ l < g 13 := by omega
    have ho' : 0 ≤ o ∧ o < g 28 := by omega
    have hr1 := RW_say hr (by omega) hg hl' ho'
    have hg1 := GOK_say hg hl' ho'
    have s0 : rSay g l o 0 = g 0 := by unfold rSay; rw [if_neg (by omega), if_neg (by omega)]
    have g3 := hg1.2.2.1
    have hr2 := RW_day hr1 (by omega) ⟨by omega, by omega⟩
    have hg2 := GOK_day hg1 (by omega)
    obtain ⟨d1, d2, d3, d4⟩ := ds_1 (g := g) (l := l) (o := o) (by omega) (by omega)
    have eh : ga (dayM (sayM τ 74 l o) 74) 74 (1 + o) = rDay (rSay g l o) (1 + o) := hr2 (1 + o) (by omega) (by omega)
    have hs2 : ONE 74 σ (dayM (sayM τ 74 l o) 74) := ONE_trans hs (ONE_trans say_one day_one)
    have bh : InR (rDay (rSay g l o) (1 + o)) := by rw [← eh]; exact ga_in _ _ _
    have nxt : ∀ a', (a' = 0 ∨ a' = 1) → kpR l o n (rDay (rSay g l o)) a' = kpR l o (n + 1) g a → Wp none (d + 19) 173 46 [.inr (.inr (.inl 71)), .inl o, .inl N, .inl l, .inl a', .inl ((i : Int) + 1)] [] (dayM (sayM τ 74 l o) 74) Q := fun a' ha' hk => by
      refine ih (i + 1) a' (rDay (rSay g l o)) _ (by omega) hr2 hg2 (by rw [d3]; omega) ⟨by rw [d4 _ (by omega)]; exact he.1, by rw [d4 _ (by omega)]; exact he.2⟩ hs2 ha' (fun τ' ht => ?_)
      rw [hk]
      exact hq τ' ht
    rcases ha with rfl | rfl
    · simp (disch := first | with_reducible assumption | omega | exact ga_in _ _ _ | exact gg_in _ _ _ | (unfold InR; omega) | (unfold InL; omega) | (simp only [shC_71, shC_72, shC_73, shC_74, shC_75, shC_76, shC_77, shC_78, shC_79, shL_72, shL_73, shL_74, shL_75, shL_76, shL_77, shL_78, shL_79]; first | done | omega)) only [q173_46, q173_48, q173_49, q173_52, q173_53, q173_56, q173_57, q173_58, q173_61, q173_62, q173_65, q173_68, q173_70, q173_73, q173_74, q173_77, q173_78, q173_79, q173_80, q173_81, q173_83, q173_86, q173_87, q173_90, q173_91, q173_93, shC_71, shC_72, shC_73, shC_74, shC_75, shC_76, shC_77, shC_78, shC_79, shL_72, shL_73, shL_74, shL_75, shL_76, shL_77, shL_78, shL_79, shR_71_0, shR_71_1, shR_71_2, shR_71_3, shR_71_4, shR_71_5, shR_71_8, shR_71_15, c221, e, k132 M74 hO, k133 M74, pushR_I, pushR_L, pushR_R, pushR_V, InR_gg, InR_ga, InR_wr, InL_gl, InR_b, b01, b01_0, if_true, if_false, not_true_eq_false, not_false_eq_true, and_true, true_and, and_self, Sum.inl.injEq, one0, Bool.false_eq_true]
      rw [q173_96]
      exact nxt 0 (Or.inl rfl) (by rw [kpR_0, kpR_0])
    · by_cases c : rDay (rSay g l o) (1 + o) < 20
      · simp (disch := first | with_reducible assumption | omega | exact ga_in _ _ _ | exact gg_in _ _ _ | (unfold InR; omega) | (unfold InL; omega) | (simp only [shC_71, shC_72, shC_73, shC_74, shC_75, shC_76, shC_77, shC_78, shC_79, shL_72, shL_73, shL_74, shL_75, shL_76, shL_77, shL_78, shL_79]; first | done | omega)) only [q173_46, q173_48, q173_49, q173_52, q173_53, q173_56, q173_57, q173_58, q173_61, q173_62, q173_65, q173_68, q173_70, q173_73, q173_74, q173_77, q173_78, q173_79, q173_80, q173_81, q173_83, q173_86, q173_87, q173_90, q173_91, q173_93, shC_71, shC_72, shC_73, shC_74, shC_75, shC_76, shC_77, shC_78, shC_79, shL_72, shL_73, shL_74, shL_75, shL_76, shL_77, shL_78, shL_79, shR_71_0, shR_71_1, shR_71_2, shR_71_3, shR_71_4, shR_71_5, shR_71_8, shR_71_15, c221, e, k132 M74 hO, k133 M74, eh, c, pushR_I, pushR_L, pushR_R, pushR_V, InR_gg, InR_ga, InR_wr, InL_gl, InR_b, b01, b01_0, if_true, if_false, not_true_eq_false, not_false_eq_true, and_true, true_and, and_self, Sum.inl.injEq, one0, Bool.false_eq_true]
        rw [q173_96]
        refine nxt 0 (Or.inl rfl) ?_
        simp only [kpR]
        rw [if_neg (fun q => by have := q.2; omega)]
      · simp (disch := first | with_reducible assumption | omega | exact ga_in _ _ _ | exact gg_in _ _ _ | (unfold InR; omega) | (unfold InL; omega) | (simp only [shC_71, shC_72, shC_73, shC_74, shC_75, shC_76, shC_77, shC_78, shC_79, shL_72, shL_73, shL_74, shL_75, shL_76, shL_77, shL_78, shL_79]; first | done | omega)) only [q173_46, q173_48, q173_49, q173_52, q173_53, q173_56, q173_57, q173_58, q173_61, q173_62, q173_65, q173_68, q173_70, q173_73, q173_74, q173_77, q173_78, q173_79, q173_80, q173_81, q173_83, q173_86, q173_87, q173_90, q173_91, q173_93, shC_71, shC_72, shC_73, shC_74, shC_75, shC_76, shC_77, shC_78, shC_79, shL_72, shL_73, shL_74, shL_75, shL_76, shL_77, shL_78, shL_79, shR_71_0, shR_71_1, shR_71_2, shR_71_3, shR_71_4, shR_71_5, shR_71_8, shR_71_15, c221, e, k132 M74 hO, k133 M74, eh, c, pushR_I, pushR_L, pushR_R, pushR_V, InR_gg, InR_ga, InR_wr, InL_gl, InR_b, b01, b01_0, if_true, if_false, not_true_eq_false, not_false_eq_true, and_true, true_and, and_self, Sum.inl.injEq, one0, Bool.false_eq_true]
        rw [q173_96]
        refine nxt 1 (Or.inr rfl) ?_
        simp only [kpR]
        rw [if_pos ⟨by omega, by omega⟩]
theorem l173 (hr : RW σ 72 221 g) (hg : GOK g) (hd : g 0 ≤ 9999) {o N : Int} (hN : 1 ≤ N ∧ N ≤ 9) (ho : 0 ≤ o ∧ o < g 28) : ∀ (n l : Nat) (τ : SG) (w4 w5 : AV), (l : Int) + n = g 13 → ONE 74 σ τ →
    (∀ τ', ONE 74 σ τ' → Q (.inl (match fndN (kpG g o N) n l with
      | none => -1
      | some l => (l : Int))) τ') →
    Wp none (d + 19) 173 25 [.inr (.inr (.inl 71)), .inl o, .inl N, .inl (l : Int), w4, w5] [] τ Q := by
  have c221 : ((221 : Nat) : Int) = 221 := rfl
  have G1 := hg.1
  have G2 := hg.2.1
  intro n
  induction n with
  | zero =>
    intro l τ w4 w5 hl hs hq
    have e13 : ga τ 72 13 = g 13 := (RW_other hr hs (by omega)) 13 (by omega) (by omega)
    have e : g 13 ≤ (l : Int) := by omega
    simp (disch := first | with_reducible assumption | omega | exact ga_in _ _ _ | exact gg_in _ _ _ | (unfold InR; omega) | (unfold InL; omega) | (simp only [shC_71, shC_72, shC_73, shC_74, shC_75, shC_76, shC_77, shC_78, shC_79, shL_72, shL_73, shL_74, shL_75, shL_76, shL_77, shL_78, shL_79]; first | done | omega)) only [q173_25, q173_26, q173_27, q173_30, q173_32, q173_33, q173_112, q173_113, shC_71, shC_72, shC_73, shC_74, shC_75, shC_76, shC_77, shC_78, shC_79, shL_72, shL_73, shL_74, shL_75, shL_76, shL_77, shL_78, shL_79, shR_71_0, shR_71_1, shR_71_2, shR_71_3, shR_71_4, shR_71_5, shR_71_8, shR_71_15, c221, e13, e, pushR_I, pushR_L, pushR_R, pushR_V, InR_gg, InR_ga, InR_wr, InL_gl, InR_b, b01, b01_0, if_true, if_false, not_true_eq_false, not_false_eq_true, and_true, true_and, and_self, Sum.inl.injEq, one0, Bool.false_eq_true]
    exact hq τ hs
  | succ n ih =>
    intro l τ w4 w5 hl hs hq
    have hrt := RW_other hr hs (by omega)
    have e13 : ga τ 72 13 = g 13 := hrt 13 (by omega) (by omega)
    have e : ¬ g 13 ≤ (l : Int) := by omega
    simp (disch := first | with_reducible assumption | omega | exact ga_in _ _ _ | exact gg_in _ _ _ | (unfold InR; omega) | (unfold InL; omega) | (simp only [shC_71, shC_72, shC_73, shC_74, shC_75, shC_76, shC_77, shC_78, shC_79, shL_72, shL_73, shL_74, shL_75, shL_76, shL_77, shL_78, shL_79]; first | done | omega)) only [q173_25, q173_26, q173_27, q173_30, q173_32, q173_33, q173_36, q173_37, q173_39, q173_40, q173_43, q173_44, shC_71, shC_72, shC_73, shC_74, shC_75, shC_76, shC_77, shC_78, shC_79, shL_72, shL_73, shL_74, shL_75, shL_76, shL_77, shL_78, shL_79, shR_71_0, shR_71_1, shR_71_2, shR_71_3, shR_71_4, shR_71_5, shR_71_8, shR_71_15, c221, e13, e, k137, pushR_I, pushR_L, pushR_R, pushR_V, InR_gg, InR_ga, InR_wr, InL_gl, InR_b, b01, b01_0, if_true, if_false, not_true_eq_false, not_false_eq_true, and_true, true_and, and_self, Sum.inl.injEq, one0, Bool.false_eq_true]
    have hs1 : ONE 74 σ (asIt τ) := ONE_trans hs asIt_one
    refine l173i (d := d) (σ := σ) (Q := Q) hN.2 hg (l := (l : Int)) (by omega) ho N.toNat 0 1 g (asIt τ) (by omega) (RW_asIt hrt) hg (by omega) ⟨rfl, rfl⟩ hs1 (Or.inr rfl) (fun τ' ht => ?_)
    rw [kpR_kp (kd := g (14 + (l : Int))) (u := g (21 + (l : Int))) (ok := g (29 + o)) (dd := g 0) (by omega) (by omega) N.toNat 0 g rfl rfl rfl (by omega)]
    simp only [fndN] at hq
    by_cases c : kpG g o N l = true
    · have c' : kpF (g (14 + (l : Int))) (g (21 + (l : Int))) (g (29 + o)) (g 0) 0 N.toNat (g (1 + o)) (g (6 + (l : Int))) = true := c
      rw [if_pos c] at hq
      simp (disch := first | with_reducible assumption | omega | exact ga_in _ _ _ | exact gg_in _ _ _ | (unfold InR; omega) | (unfold InL; omega) | (simp only [shC_71, shC_72, shC_73, shC_74, shC_75, shC_76, shC_77, shC_78, shC_79, shL_72, shL_73, shL_74, shL_75, shL_76, shL_77, shL_78, shL_79]; first | done | omega)) only [q173_99, q173_101, q173_104, q173_105, q173_106, c', pushR_I, pushR_L, pushR_R, pushR_V, InR_gg, InR_ga, InR_wr, InL_gl, InR_b, b01, b01_0, if_true, if_false, not_true_eq_false, not_false_eq_true, and_true, true_and, and_self, Sum.inl.injEq, one0, Bool.false_eq_true]
      exact hq τ' ht
    · have c' : ¬ kpF (g (14 + (l : Int))) (g (21 + (l : Int))) (g (29 + o)) (g 0) 0 N.toNat (g (1 + o)) (g (6 + (l : Int))) = true := c
      rw [if_neg c] at hq
      simp (disch := first | with_reducible assumption | omega | exact ga_in _ _ _ | exact gg_in _ _ _ | (unfold InR; omega) | (unfold InL; omega) | (simp only [shC_71, shC_72, shC_73, shC_74, shC_75, shC_76, shC_77, shC_78, shC_79, shL_72, shL_73, shL_74, shL_75, shL_76, shL_77, shL_78, shL_79]; first | done | omega)) only [q173_99, q173_101, q173_104, q173_105, q173_106, c', pushR_I, pushR_L, pushR_R, pushR_V, InR_gg, InR_ga, InR_wr, InL_gl, InR_b, b01, b01_0, if_true, if_false, not_true_eq_false, not_false_eq_true, and_true, true_and, and_self, Sum.inl.injEq, one0, Bool.false_eq_true]
      rw [q173_109]
      exact ih (l + 1) τ' _ _ (by omega) ht hq
theorem MO_74 {τ : SG} {v : Int} (h : MR σ S) (hs : ONE 74 σ τ) : OPM σ (v, S) (.inl v) τ := ⟨rfl, MR_scr h (fun a b q => hs.1 a b (by unfold MRk at q; omega)) (fun b => hs.2 71 b), MLO_one hs (by omega)⟩
theorem o173 (h : MR σ S) (hS : SOK S) {o n : Int} (ho : InR o) (hn : InR n) : CalE (d + 20) 173 [.inr (.inr (.inl 71)), .inl o, .inl n] σ (OPM σ (fKeep S o n)) := by
  have hO := MOKn h.1 (by omega) hS.1
  have e28 : ga σ 72 28 = S 0 28 := h.1 28 (by omega) (by omega)
  have g13 := hS.1.1
  refine Cal_ex (ls := [.inr (.inr (.inl 71)), .inl o, .inl n, aU, aU, aU]) rfl mna_173 mml_173 mhl_173 rfl rfl ?_
  unfold fKeep
  by_cases h1 : 0 ≤ o ∧ o < ga σ 72 28
  · have h1' : 0 ≤ o ∧ o < S 0 28 := by omega
    by_cases h2 : 1 ≤ n ∧ n ≤ 9
    · rw [if_pos ⟨h1', h2⟩]
      simp (disch := first | with_reducible assumption | omega | exact ga_in _ _ _ | exact gg_in _ _ _ | (unfold InR; omega) | (unfold InL; omega) | (simp only [shC_71, shC_72, shC_73, shC_74, shC_75, shC_76, shC_77, shC_78, shC_79, shL_72, shL_73, shL_74, shL_75, shL_76, shL_77, shL_78, shL_79]; first | done | omega)) only [q173_0, q173_1, q173_2, q173_5, q173_8, q173_9, q173_10, q173_12, q173_15, q173_18, q173_19, q173_22, q173_23, q173_24, shC_71, shC_72, shC_73, shC_74, shC_75, shC_76, shC_77, shC_78, shC_79, shL_72, shL_73, shL_74, shL_75, shL_76, shL_77, shL_78, shL_79, shR_71_0, shR_71_1, shR_71_2, shR_71_3, shR_71_4, shR_71_5, shR_71_8, shR_71_15, k123 hO.2.1, k116, h1, h2, pushR_I, pushR_L, pushR_R, pushR_V, InR_gg, InR_ga, InR_wr, InL_gl, InR_b, b01, b01_0, if_true, if_false, not_true_eq_false, not_false_eq_true, and_true, true_and, and_self, Sum.inl.injEq, one0, Bool.false_eq_true]
      exact l173 (d := d) h.1 hS.1 hS.2.2.2.1.1 h2 h1' (S 0 13).toNat 0 σ _ _ (by omega) (ONE_refl _ _) (fun τ' ht => MO_74 h ht)
    · rw [if_neg (fun q => h2 q.2)]
      simp (disch := first | with_reducible assumption | omega | exact ga_in _ _ _ | exact gg_in _ _ _ | (unfold InR; omega) | (unfold InL; omega) | (simp only [shC_71, shC_72, shC_73, shC_74, shC_75, shC_76, shC_77, shC_78, shC_79, shL_72, shL_73, shL_74, shL_75, shL_76, shL_77, shL_78, shL_79]; first | done | omega)) only [q173_0, q173_1, q173_2, q173_5, q173_8, q173_9, q173_10, q173_12, q173_15, q173_18, q173_19, q173_22, q173_23, q173_24, shC_71, shC_72, shC_73, shC_74, shC_75, shC_76, shC_77, shC_78, shC_79, shL_72, shL_73, shL_74, shL_75, shL_76, shL_77, shL_78, shL_79, shR_71_0, shR_71_1, shR_71_2, shR_71_3, shR_71_4, shR_71_5, shR_71_8, shR_71_15, k123 hO.2.1, k116, h1, h2, k118, pushR_I, pushR_L, pushR_R, pushR_V, InR_gg, InR_ga, InR_wr, InL_gl, InR_b, b01, b01_0, if_true, if_false, not_true_eq_false, not_false_eq_true, and_true, true_and, and_self, Sum.inl.injEq, one0, Bool.false_eq_true]
      exact MO_bad h
  · rw [if_neg (fun q => h1 (by have := q.1; unfold hasO at this; omega))]
    simp (disch := first | with_reducible assumption | omega | exact ga_in _ _ _ | exact gg_in _ _ _ | (unfold InR; omega) | (unfold InL; omega) | (simp only [shC_71, shC_72, shC_73, shC_74, shC_75, shC_76, shC_77, shC_78, shC_79, shL_72, shL_73, shL_74, shL_75, shL_76, shL_77, shL_78, shL_79]; first | done | omega)) only [q173_0, q173_1, q173_2, q173_5, q173_8, q173_9, q173_10, q173_12, q173_15, q173_18, q173_19, q173_22, q173_23, q173_24, shC_71, shC_72, shC_73, shC_74, shC_75, shC_76, shC_77, shC_78, shC_79, shL_72, shL_73, shL_74, shL_75, shL_76, shL_77, shL_78, shL_79, shR_71_0, shR_71_1, shR_71_2, shR_71_3, shR_71_4, shR_71_5, shR_71_8, shR_71_15, k123 hO.2.1, h1, k118, pushR_I, pushR_L, pushR_R, pushR_V, InR_gg, InR_ga, InR_wr, InL_gl, InR_b, b01, b01_0, if_true, if_false, not_true_eq_false, not_false_eq_true, and_true, true_and, and_self, Sum.inl.injEq, one0, Bool.false_eq_true]
    exact MO_bad h
end MOPS6
