-- the class's trues
section OPS7
variable {d : Nat} {σ : SG} {S : Nat → Int → Int} {Q : AV → SG → Prop} {K : AV → SG → Prop}
theorem pow_n {n : Int} (h : 0 ≤ n ∧ n ≤ 7) : 1 ≤ (2 : Int) ^ n.toNat ∧ (2 : Int) ^ n.toNat ≤ 128 := by
  have hc : n = 0 ∨ n = 1 ∨ n = 2 ∨ n = 3 ∨ n = 4 ∨ n = 5 ∨ n = 6 ∨ n = 7 := by omega
  rcases hc with rfl | rfl | rfl | rfl | rfl | rfl | rfl | rfl <;> decide
theorem m87 {n : Int} (hn : 0 ≤ n ∧ n ≤ 7) : Cal (d + 2) 87 [.inl n] σ (.inl (2 ^ n.toNat - 1)) σ := by
  have h30 : 0 ≤ n ∧ n ≤ 30 := by omega
  have hb := pow_n hn
  refine Cal_in (ls := [.inl n]) rfl mna_87 mml_87 mhl_87 rfl rfl ?_
  have e1 : (1 : Int) * 2 ^ n.toNat = 2 ^ n.toNat := Int.one_mul _
  have e2 : (1 : Int) * 2 ^ n.toNat < 4294967296 := by omega
  simp (disch := first | with_reducible assumption | omega | exact ga_in _ _ _ | exact gg_in _ _ _ | (unfold InR; omega) | (unfold InL; omega) | (simp only [shC_0, shC_1, shC_2, shC_3, shC_4, shC_5, shC_6, shC_7, shC_8, shC_9, shC_10, shC_11, shC_12, shC_13, shC_14, shC_15, shC_30, shC_44, shC_29, shC_58, shC_59, shC_60, shC_61, shC_62, shC_63, shC_64, shC_65, shC_66, shC_67, shC_68, shC_69, shC_70, shL_2, shL_3, shL_4, shL_5, shL_6, shL_8, shL_10, shL_12, shL_14, shL_29, shL_58, shL_60, shL_62, shL_63, shL_65, shL_66, shL_67, shL_68, shL_69, shL_70]; first | done | omega)) only [q87_0, q87_1, q87_2, q87_4, q87_7, q87_10, q87_11, q87_12, q87_13, q87_14, q87_15, q87_18, q87_19, k86, h30, e1, pushR_I, pushR_L, pushR_R, pushR_V, InR_gg, InR_ga, InR_wr, InL_gl, InR_b, b01, b01_0, if_true, if_false, not_true_eq_false, not_false_eq_true, and_true, true_and, and_self, Sum.inl.injEq, one0, Bool.false_eq_true]
theorem k87 {n : Int} (hn : 0 ≤ n ∧ n ≤ 7) : CalK (d + 2) 87 [.inl n] σ K = K (.inl (2 ^ n.toNat - 1)) σ := CalK_eq (m87 hn)
theorem hbF_congr {ok : Int} {lt lt2 : Nat → Int} {b b2 : Int} : ∀ (n i : Nat) (h : Int), (∀ j, i ≤ j → j < i + n → hasb b j = hasb b2 j ∧ lt j = lt2 j) → hbF ok lt b i n h = hbF ok lt2 b2 i n h := by
  intro n
  induction n with
  | zero => intro i h _; rfl
  | succ n ih =>
    intro i h hf
    simp only [hbF]
    obtain ⟨h1, h2⟩ := hf i (Nat.le_refl _) (by omega)
    rw [h1, h2]
    exact ih (i + 1) _ (fun j h3 h4 => hf j (by omega) (by omega))
theorem hb_G {g : Int → Int} (hT : TRc σ 1 g) (hG : GOK g) {o : Int} (ho : 0 ≤ o ∧ o < g 28) (L m : Nat) : hbF (ga σ 5 o) (fun i => ltT σ 1 (i : Int) (ga σ 4 (i : Int))) ((L - (L &&& m) : Nat) : Int) 0 (gg σ 1 0).toNat (ga σ 6 o) = htT g o L m := by
  have hT' := hT
  have g13 := hG.1
  obtain ⟨⟨e0, e1, e2⟩, hl, ho1, -⟩ := hT
  obtain ⟨b1, b2⟩ := ho1 o ho.1 ho.2
  unfold htT
  rw [e0, show ga σ 5 o = g (29 + o) from b1, show ga σ 6 o = g (1 + o) from b2]
  exact hbF_congr _ _ _ (fun j _ hj => ⟨rfl, ltT_G hT' ⟨by omega, by omega⟩⟩)
theorem hbF_b {ok : Int} {lt : Nat → Int} {b : Int} (hl : ∀ j, 0 ≤ lt j) : ∀ (n i : Nat) (h : Int), 0 ≤ h ∧ h ≤ 99 → 0 ≤ hbF ok lt b i n h ∧ hbF ok lt b i n h ≤ 99 := by
  intro n
  induction n with
  | zero => intro i h hh; exact hh
  | succ n ih =>
    intro i h hh
    simp only [hbF]
    refine ih (i + 1) _ ?_
    split
    · exact heI_b hh (tkI_nn (hl i) hh.1)
    · exact hh
theorem htT_r {g : Int → Int} (hT : TRc σ 1 g) (hG : GOK g) {o : Int} (ho : 0 ≤ o ∧ o < g 28) (L m : Nat) : InR (htT g o L m) := by
  have g13 := hG.1
  have b := (hG.2.2.2.2.1 o ho.1 ho.2).2
  have e : htT g o L m = hbF (g (29 + o)) (fun l => if (l : Int) < g 13 then ltG g (l : Int) else 0) ((L - (L &&& m) : Nat) : Int) 0 (g 13).toNat (g (1 + o)) := by
    unfold htT
    exact hbF_congr _ _ _ (fun j _ hj => ⟨rfl, by rw [if_pos (by omega)]⟩)
  rw [e]
  have := hbF_b (ok := g (29 + o)) (lt := fun l => if (l : Int) < g 13 then ltG g (l : Int) else 0) (b := ((L - (L &&& m) : Nat) : Int)) (fun j => by
    show 0 ≤ (if (j : Int) < g 13 then ltG g (j : Int) else 0)
    split
    · rename_i hj
      exact (tkG_b hG (l := (j : Int)) (o := o) ⟨by omega, hj⟩ ho).1.1
    · omega) (g 13).toNat 0 (g (1 + o)) b
  exact ⟨by omega, by omega⟩
theorem l74 {g : Int → Int} (hT : TRc σ 1 g) (hG : GOK g) {o c : Int} {L : Nat} (ho : 0 ≤ o ∧ o < g 28) (hc : 0 ≤ c ∧ c ≤ 10) (hL : L < 128) : ∀ (n m : Nat) (h a : Int) (w9 w10 : AV), m + n = L + 1 →
    (∀ w9 w10, Wp none (d + 19) 74 117 [.inr (.inr (.inl 0)), .inl o, .inl (L : Int), .inl c, .inr (.inl (h + sumF (fun m => if sbT L m then (if 20 ≤ htT g o L m then chT c L m else 0) else 0) m n)), aU, .inr (.inl (a + sumF (fun m => if sbT L m then chT c L m else 0) m n)), aU, .inl ((L : Int) + 1), w9, w10] [] σ Q) →
    Wp none (d + 19) 74 53 [.inr (.inr (.inl 0)), .inl o, .inl (L : Int), .inl c, .inr (.inl h), aU, .inr (.inl a), aU, .inl (m : Int), w9, w10] [] σ Q := by
  have hO := TOK_of hT hG
  have e1 : gg σ 1 1 = g 28 := hT.1.2.1
  intro n
  induction n with
  | zero =>
    intro m h a w9 w10 hm hq
    have e : (L : Int) < (m : Int) := by omega
    have em : (m : Int) = (L : Int) + 1 := by omega
    have := hq w9 w10
    simp only [sumF, Int.add_zero] at this
    simp (disch := first | with_reducible assumption | omega | exact ga_in _ _ _ | exact gg_in _ _ _ | (unfold InR; omega) | (unfold InL; omega) | (simp only [shC_0, shC_1, shC_2, shC_3, shC_4, shC_5, shC_6, shC_7, shC_8, shC_9, shC_10, shC_11, shC_12, shC_13, shC_14, shC_15, shC_30, shC_44, shC_29, shC_58, shC_59, shC_60, shC_61, shC_62, shC_63, shC_64, shC_65, shC_66, shC_67, shC_68, shC_69, shC_70, shL_2, shL_3, shL_4, shL_5, shL_6, shL_8, shL_10, shL_12, shL_14, shL_29, shL_58, shL_60, shL_62, shL_63, shL_65, shL_66, shL_67, shL_68, shL_69, shL_70]; first | done | omega)) only [q74_53, q74_55, q74_56, e, pushR_I, pushR_L, pushR_R, pushR_V, InR_gg, InR_ga, InR_wr, InL_gl, InR_b, b01, b01_0, if_true, if_false, not_true_eq_false, not_false_eq_true, and_true, true_and, and_self, Sum.inl.injEq, one0, Bool.false_eq_true]
    rw [em]
    exact this
  | succ n ih =>
    intro m h a w9 w10 hm hq
    have e : ¬ (L : Int) < (m : Int) := by omega
    have hand : m &&& L ≤ m := Nat.and_le_left
    have n63 : ¬ (-(L : Int) - 1 = 63) := by omega
    have nL : ¬ (0 ≤ -(L : Int) - 1) := by omega
    have tL : (-(-(L : Int) - 1) - 1).toNat = L := by omega
    have eA : (m : Int) - ((m &&& L : Nat) : Int) = ((m - (m &&& L) : Nat) : Int) := by omega
    simp only [sumF] at hq
    by_cases c1 : m &&& L = m
    · have hs : sbT L m = true := decide_eq_true c1
      have z : ((m - (m &&& L) : Nat) : Int) = 0 := by omega
      have n63m : ¬ (-(m : Int) - 1 = 63) := by omega
      have nM : ¬ (0 ≤ -(m : Int) - 1) := by omega
      have tM : (-(-(m : Int) - 1) - 1).toNat = m := by omega
      have handL : L &&& m ≤ L := Nat.and_le_left
      have eB : (L : Int) - ((L &&& m : Nat) : Int) = ((L - (L &&& m) : Nat) : Int) := by omega
      have hr := htT_r hT hG ho L m
      have eh := hb_G hT hG ho L m
      have ec : chF (m : Int) (L : Int) c 0 7 1 = chT c L m := rfl
      simp only [hs, if_true] at hq
      by_cases c2 : 20 ≤ htT g o L m
      · have c2' : ¬ htT g o L m < 20 := by omega
        simp only [c2, if_true] at hq
        simp (disch := first | with_reducible assumption | omega | exact ga_in _ _ _ | exact gg_in _ _ _ | (unfold InR; omega) | (unfold InL; omega) | (simp only [shC_0, shC_1, shC_2, shC_3, shC_4, shC_5, shC_6, shC_7, shC_8, shC_9, shC_10, shC_11, shC_12, shC_13, shC_14, shC_15, shC_30, shC_44, shC_29, shC_58, shC_59, shC_60, shC_61, shC_62, shC_63, shC_64, shC_65, shC_66, shC_67, shC_68, shC_69, shC_70, shL_2, shL_3, shL_4, shL_5, shL_6, shL_8, shL_10, shL_12, shL_14, shL_29, shL_58, shL_60, shL_62, shL_63, shL_65, shL_66, shL_67, shL_68, shL_69, shL_70]; first | done | omega)) only [q74_53, q74_55, q74_56, q74_59, q74_61, q74_62, q74_63, q74_64, q74_65, q74_68, q74_70, q74_71, q74_72, q74_75, q74_77, q74_79, q74_81, q74_82, q74_84, q74_86, q74_87, q74_88, q74_89, q74_91, q74_92, q74_93, q74_94, q74_97, q74_99, q74_102, q74_104, q74_107, q74_108, q74_109, q74_111, shC_0, shC_1, shC_2, shC_3, shC_4, shC_5, shC_6, shC_7, shC_8, shC_9, shC_10, shC_11, shC_12, shC_13, shC_14, shC_15, shC_30, shC_44, shC_29, shC_58, shC_59, shC_60, shC_61, shC_62, shC_63, shC_64, shC_65, shC_66, shC_67, shC_68, shC_69, shC_70, shL_2, shL_3, shL_4, shL_5, shL_6, shL_8, shL_10, shL_12, shL_14, shL_29, shL_58, shL_60, shL_62, shL_63, shL_65, shL_66, shL_67, shL_68, shL_69, shL_70, shR_0_0, shR_0_1, shR_0_2, shR_0_3, shR_0_4, shR_0_5, shR_0_6, shR_0_7, shR_1_3, shR_1_4, shR_1_5, shR_1_6, shR_1_7, shR_1_8, shR_1_9, shR_1_10, shR_1_11, shR_7_2, shR_9_2, shR_11_2, shR_13_0, shR_59_0, shR_61_0, shR_61_1, shR_61_2, shR_64_0, shR_64_1, shR_64_2, shR_64_3, shR_64_4, shR_64_5, e, n63, nL, tL, Int.toNat_natCast, eA, z, n63m, nM, tM, eB, k112 (c := c), ec, k113 hO, eh, c2', pushR_I, pushR_L, pushR_R, pushR_V, InR_gg, InR_ga, InR_wr, InL_gl, InR_b, b01, b01_0, if_true, if_false, not_true_eq_false, not_false_eq_true, and_true, true_and, and_self, Sum.inl.injEq, one0, Bool.false_eq_true]
        rw [q74_114]
        refine ih (m + 1) (h + chT c L m) (a + chT c L m) _ _ (by omega) (fun w9 w10 => ?_)
        rw [Int.add_assoc, Int.add_assoc]
        exact hq w9 w10
      · have c2' : htT g o L m < 20 := by omega
        simp only [c2, if_false, Int.zero_add] at hq
        simp (disch := first | with_reducible assumption | omega | exact ga_in _ _ _ | exact gg_in _ _ _ | (unfold InR; omega) | (unfold InL; omega) | (simp only [shC_0, shC_1, shC_2, shC_3, shC_4, shC_5, shC_6, shC_7, shC_8, shC_9, shC_10, shC_11, shC_12, shC_13, shC_14, shC_15, shC_30, shC_44, shC_29, shC_58, shC_59, shC_60, shC_61, shC_62, shC_63, shC_64, shC_65, shC_66, shC_67, shC_68, shC_69, shC_70, shL_2, shL_3, shL_4, shL_5, shL_6, shL_8, shL_10, shL_12, shL_14, shL_29, shL_58, shL_60, shL_62, shL_63, shL_65, shL_66, shL_67, shL_68, shL_69, shL_70]; first | done | omega)) only [q74_53, q74_55, q74_56, q74_59, q74_61, q74_62, q74_63, q74_64, q74_65, q74_68, q74_70, q74_71, q74_72, q74_75, q74_77, q74_79, q74_81, q74_82, q74_84, q74_86, q74_87, q74_88, q74_89, q74_91, q74_92, q74_93, q74_94, q74_97, q74_99, q74_102, q74_104, q74_107, q74_108, q74_109, q74_111, shC_0, shC_1, shC_2, shC_3, shC_4, shC_5, shC_6, shC_7, shC_8, shC_9, shC_10, shC_11, shC_12, shC_13, shC_14, shC_15, shC_30, shC_44, shC_29, shC_58, shC_59, shC_60, shC_61, shC_62, shC_63, shC_64, shC_65, shC_66, shC_67, shC_68, shC_69, shC_70, shL_2, shL_3, shL_4, shL_5, shL_6, shL_8, shL_10, shL_12, shL_14, shL_29, shL_58, shL_60, shL_62, shL_63, shL_65, shL_66, shL_67, shL_68, shL_69, shL_70, shR_0_0, shR_0_1, shR_0_2, shR_0_3, shR_0_4, shR_0_5, shR_0_6, shR_0_7, shR_1_3, shR_1_4, shR_1_5, shR_1_6, shR_1_7, shR_1_8, shR_1_9, shR_1_10, shR_1_11, shR_7_2, shR_9_2, shR_11_2, shR_13_0, shR_59_0, shR_61_0, shR_61_1, shR_61_2, shR_64_0, shR_64_1, shR_64_2, shR_64_3, shR_64_4, shR_64_5, e, n63, nL, tL, Int.toNat_natCast, eA, z, n63m, nM, tM, eB, k112 (c := c), ec, k113 hO, eh, c2', Int.add_zero, pushR_I, pushR_L, pushR_R, pushR_V, InR_gg, InR_ga, InR_wr, InL_gl, InR_b, b01, b01_0, if_true, if_false, not_true_eq_false, not_false_eq_true, and_true, true_and, and_self, Sum.inl.injEq, one0, Bool.false_eq_true]
        rw [q74_114]
        refine ih (m + 1) h (a + chT c L m) _ _ (by omega) (fun w9 w10 => ?_)
        rw [Int.add_assoc]
        exact hq w9 w10
    · have hs : sbT L m = false := decide_eq_false c1
      have z : ¬ ((m - (m &&& L) : Nat) : Int) = 0 := by omega
      simp only [hs, Bool.false_eq_true, if_false, Int.zero_add] at hq
      simp (disch := first | with_reducible assumption | omega | exact ga_in _ _ _ | exact gg_in _ _ _ | (unfold InR; omega) | (unfold InL; omega) | (simp only [shC_0, shC_1, shC_2, shC_3, shC_4, shC_5, shC_6, shC_7, shC_8, shC_9, shC_10, shC_11, shC_12, shC_13, shC_14, shC_15, shC_30, shC_44, shC_29, shC_58, shC_59, shC_60, shC_61, shC_62, shC_63, shC_64, shC_65, shC_66, shC_67, shC_68, shC_69, shC_70, shL_2, shL_3, shL_4, shL_5, shL_6, shL_8, shL_10, shL_12, shL_14, shL_29, shL_58, shL_60, shL_62, shL_63, shL_65, shL_66, shL_67, shL_68, shL_69, shL_70]; first | done | omega)) only [q74_53, q74_55, q74_56, q74_59, q74_61, q74_62, q74_63, q74_64, q74_65, q74_68, q74_70, q74_71, q74_72, q74_75, q74_77, q74_79, q74_81, q74_82, q74_84, q74_86, q74_87, q74_88, q74_89, q74_91, q74_92, q74_93, q74_94, q74_97, q74_99, q74_102, q74_104, q74_107, q74_108, q74_109, q74_111, shC_0, shC_1, shC_2, shC_3, shC_4, shC_5, shC_6, shC_7, shC_8, shC_9, shC_10, shC_11, shC_12, shC_13, shC_14, shC_15, shC_30, shC_44, shC_29, shC_58, shC_59, shC_60, shC_61, shC_62, shC_63, shC_64, shC_65, shC_66, shC_67, shC_68, shC_69, shC_70, shL_2, shL_3, shL_4, shL_5, shL_6, shL_8, shL_10, shL_12, shL_14, shL_29, shL_58, shL_60, shL_62, shL_63, shL_65, shL_66, shL_67, shL_68, shL_69, shL_70, shR_0_0, shR_0_1, shR_0_2, shR_0_3, shR_0_4, shR_0_5, shR_0_6, shR_0_7, shR_1_3, shR_1_4, shR_1_5, shR_1_6, shR_1_7, shR_1_8, shR_1_9, shR_1_10, shR_1_11, shR_7_2, shR_9_2, shR_11_2, shR_13_0, shR_59_0, shR_61_0, shR_61_1, shR_61_2, shR_64_0, shR_64_1, shR_64_2, shR_64_3, shR_64_4, shR_64_5, e, n63, nL, tL, Int.toNat_natCast, eA, z, pushR_I, pushR_L, pushR_R, pushR_V, InR_gg, InR_ga, InR_wr, InL_gl, InR_b, b01, b01_0, if_true, if_false, not_true_eq_false, not_false_eq_true, and_true, true_and, and_self, Sum.inl.injEq, one0, Bool.false_eq_true]
      rw [q74_114]
      exact ih (m + 1) h a _ _ (by omega) hq
theorem gl_ul_eq (σ : SG) (k j : Nat) (v : Int) : gl (ul σ k j v) k j = wrL v := by rw [gl_ul, if_pos rfl, if_pos rfl]
theorem gl_ul_ne (σ : SG) {k j a b : Nat} (v : Int) (h : ¬ (a = k ∧ b = j)) : gl (ul σ k j v) a b = gl σ a b := by
  rw [gl_ul]
  by_cases h1 : a = k
  · rw [if_pos h1, if_neg (fun q => h ⟨h1, q⟩)]
  · rw [if_neg h1]
theorem quo_b {a : Int} {b : Nat} (h : 0 ≤ a ∧ a ≤ 1280000000) : InL (a / (b : Int)) := by
  have h1 : 0 ≤ a / (b : Int) := Int.ediv_nonneg h.1 (by omega)
  have h2 : a / (b : Int) ≤ a := Int.ediv_le_self _ h.1
  exact ⟨by omega, by omega⟩
theorem o74 (h : CR σ S) (hS : SOK S) {o lies c : Int} (ho : InR o) (hl : InR lies) (hc : InR c) : CalE (d + 20) 74 [.inr (.inr (.inl 0)), .inl o, .inl lies, .inl c] σ (OPC σ (fTrues S o lies c)) := by
  obtain ⟨hO, hE, hN, hM, e0, e1, e2, e13⟩ := CR_T h hS
  have g13 := hS.1.1
  have hb := pow_n g13
  refine Cal_ex (ls := [.inr (.inr (.inl 0)), .inl o, .inl lies, .inl c, aU, aU, aU, aU, aU, aU, aU]) rfl mna_74 mml_74 mhl_74 rfl rfl ?_
  unfold fTrues
  by_cases h1 : 0 ≤ o ∧ o < gg σ 1 1
  · have h1' : 0 ≤ o ∧ o < S 0 28 := by omega
    by_cases h2 : 0 ≤ lies ∧ lies ≤ 2 ^ (S 0 13).toNat - 1
    · by_cases h3 : 0 ≤ c ∧ c ≤ 10
      · rw [if_pos ⟨h1', h2, h3⟩]
        have el : lies = (lies.toNat : Int) := by omega
        simp (disch := first | with_reducible assumption | omega | exact ga_in _ _ _ | exact gg_in _ _ _ | (unfold InR; omega) | (unfold InL; omega) | (simp only [shC_0, shC_1, shC_2, shC_3, shC_4, shC_5, shC_6, shC_7, shC_8, shC_9, shC_10, shC_11, shC_12, shC_13, shC_14, shC_15, shC_30, shC_44, shC_29, shC_58, shC_59, shC_60, shC_61, shC_62, shC_63, shC_64, shC_65, shC_66, shC_67, shC_68, shC_69, shC_70, shL_2, shL_3, shL_4, shL_5, shL_6, shL_8, shL_10, shL_12, shL_14, shL_29, shL_58, shL_60, shL_62, shL_63, shL_65, shL_66, shL_67, shL_68, shL_69, shL_70]; first | done | omega)) only [q74_0, q74_1, q74_4, q74_5, q74_8, q74_11, q74_12, q74_13, q74_14, q74_17, q74_20, q74_23, q74_26, q74_29, q74_30, q74_31, q74_33, q74_36, q74_39, q74_40, q74_43, q74_44, q74_45, q74_47, q74_48, q74_50, q74_51, shC_0, shC_1, shC_2, shC_3, shC_4, shC_5, shC_6, shC_7, shC_8, shC_9, shC_10, shC_11, shC_12, shC_13, shC_14, shC_15, shC_30, shC_44, shC_29, shC_58, shC_59, shC_60, shC_61, shC_62, shC_63, shC_64, shC_65, shC_66, shC_67, shC_68, shC_69, shC_70, shL_2, shL_3, shL_4, shL_5, shL_6, shL_8, shL_10, shL_12, shL_14, shL_29, shL_58, shL_60, shL_62, shL_63, shL_65, shL_66, shL_67, shL_68, shL_69, shL_70, shR_0_0, shR_0_1, shR_0_2, shR_0_3, shR_0_4, shR_0_5, shR_0_6, shR_0_7, shR_1_3, shR_1_4, shR_1_5, shR_1_6, shR_1_7, shR_1_8, shR_1_9, shR_1_10, shR_1_11, shR_7_2, shR_9_2, shR_11_2, shR_13_0, shR_59_0, shR_61_0, shR_61_1, shR_61_2, shR_64_0, shR_64_1, shR_64_2, shR_64_3, shR_64_4, shR_64_5, k35 T1, k86, h1, h2, h3, e0, k87, pushR_I, pushR_L, pushR_R, pushR_V, InR_gg, InR_ga, InR_wr, InL_gl, InR_b, b01, b01_0, if_true, if_false, not_true_eq_false, not_false_eq_true, and_true, true_and, and_self, Sum.inl.injEq, one0, Bool.false_eq_true]
        generalize hLn : lies.toNat = L at el ⊢
        have hL : L < 128 := by omega
        have hA := truA_all (c := c) hL
        have hAb := pN_b (bitB L) 7 0
        have hA2 := truA_b h3 L (k := L + 1) (by omega)
        have hH2 := truH_b (g := S 0) (o := o) h3 L (k := L + 1) (by omega)
        have hA1 : 1 ≤ truA c L (L + 1) := by rw [hA]; exact hAb.1
        subst el
        refine l74 (d := d) h.1 hS.1 h1' h3 hL (L + 1) 0 0 0 _ _ (by omega) (fun w9 w10 => ?_)
        rw [Int.zero_add, Int.zero_add]
        change Wp none (d + 19) 74 117 [.inr (.inr (.inl 0)), .inl o, .inl (L : Int), .inl c, .inr (.inl (truH (S 0) o c L (L + 1))), aU, .inr (.inl (truA c L (L + 1))), aU, .inl ((L : Int) + 1), w9, w10] [] σ _
        have eH : truH (S 0) o c L (L + 1) = ((truH (S 0) o c L (L + 1)).toNat : Int) := by omega
        have eA : truA c L (L + 1) = ((truA c L (L + 1)).toNat : Int) := by omega
        have hD : 0 < truD (S 0) o c L := Nat.gcd_pos_of_pos_right _ (by omega)
        have hDle : truD (S 0) o c L ≤ (truA c L (L + 1)).toNat := Nat.gcd_le_right _ (by omega)
        have K92 : CalK (d + 19) 92 [.inr (.inl (truH (S 0) o c L (L + 1))), .inr (.inl (truA c L (L + 1)))] σ = fun K => K (.inr (.inl (truD (S 0) o c L : Int))) σ := by
          funext K
          rw [eH, eA, k92 (by omega) (by omega)]
          rfl
        have d0 : ¬ ((truD (S 0) o c L : Int) = 0) := by omega
        have d1 : (0 : Int) < (truD (S 0) o c L : Int) := by omega
        simp (disch := first | with_reducible assumption | omega | exact ga_in _ _ _ | exact gg_in _ _ _ | (unfold InR; omega) | (unfold InL; omega) | (simp only [shC_0, shC_1, shC_2, shC_3, shC_4, shC_5, shC_6, shC_7, shC_8, shC_9, shC_10, shC_11, shC_12, shC_13, shC_14, shC_15, shC_30, shC_44, shC_29, shC_58, shC_59, shC_60, shC_61, shC_62, shC_63, shC_64, shC_65, shC_66, shC_67, shC_68, shC_69, shC_70, shL_2, shL_3, shL_4, shL_5, shL_6, shL_8, shL_10, shL_12, shL_14, shL_29, shL_58, shL_60, shL_62, shL_63, shL_65, shL_66, shL_67, shL_68, shL_69, shL_70]; first | done | omega)) only [q74_117, q74_119, q74_121, q74_124, q74_126, q74_128, q74_129, q74_130, q74_133, q74_134, q74_136, q74_138, q74_139, q74_142, q74_143, q74_145, q74_147, q74_148, q74_151, q74_152, shC_0, shC_1, shC_2, shC_3, shC_4, shC_5, shC_6, shC_7, shC_8, shC_9, shC_10, shC_11, shC_12, shC_13, shC_14, shC_15, shC_30, shC_44, shC_29, shC_58, shC_59, shC_60, shC_61, shC_62, shC_63, shC_64, shC_65, shC_66, shC_67, shC_68, shC_69, shC_70, shL_2, shL_3, shL_4, shL_5, shL_6, shL_8, shL_10, shL_12, shL_14, shL_29, shL_58, shL_60, shL_62, shL_63, shL_65, shL_66, shL_67, shL_68, shL_69, shL_70, shR_0_0, shR_0_1, shR_0_2, shR_0_3, shR_0_4, shR_0_5, shR_0_6, shR_0_7, shR_1_3, shR_1_4, shR_1_5, shR_1_6, shR_1_7, shR_1_8, shR_1_9, shR_1_10, shR_1_11, shR_7_2, shR_9_2, shR_11_2, shR_13_0, shR_59_0, shR_61_0, shR_61_1, shR_61_2, shR_64_0, shR_64_1, shR_64_2, shR_64_3, shR_64_4, shR_64_5, K92, d0, d1, show ¬ ((1 : Int) ≤ 0) by omega, pushR_I, pushR_L, pushR_R, pushR_V, InR_gg, InR_ga, InR_wr, InL_gl, InR_b, b01, b01_0, if_true, if_false, not_true_eq_false, not_false_eq_true, and_true, true_and, and_self, Sum.inl.injEq, one0, Bool.false_eq_true]
        have q1 := quo_b (b := truD (S 0) o c L) hH2
        have q2 := quo_b (b := truD (S 0) o c L) hA2
        generalize truH (S 0) o c L (L + 1) / (truD (S 0) o c L : Int) = X at q1 ⊢
        generalize truA c L (L + 1) / (truD (S 0) o c L : Int) = Y at q2 ⊢
        obtain ⟨c1, c2, c3, c4, c5, c6, ⟨c11, c12⟩, t1, t15, t30, t44⟩ := h
        have s0 : ∀ a, ¬ a = 4 → set4 (set4 S 6 X) 7 Y a = S a := fun a q => by funext x; unfold set4; rw [if_neg (by omega), if_neg (by omega)]
        have s4 : ∀ x, ¬ x = 6 → ¬ x = 7 → set4 (set4 S 6 X) 7 Y 4 x = S 4 x := fun x q r => by unfold set4; rw [if_neg (by omega), if_neg (by omega)]
        have s6 : set4 (set4 S 6 X) 7 Y 4 6 = X := by unfold set4; rw [if_neg (by omega), if_pos ⟨rfl, rfl⟩]
        have s7 : set4 (set4 S 6 X) 7 Y 4 7 = Y := by unfold set4; rw [if_pos ⟨rfl, rfl⟩]
        refine ⟨rfl, ?_, ⟨fun a b _ => rfl, fun a b q => by rw [gl_ul_ne _ _ (by omega), gl_ul_ne _ _ (by omega)]⟩⟩
        show CR _ (set4 (set4 S 6 X) 7 Y)
        unfold CR
        rw [s0 0 (by omega), s0 1 (by omega), s0 2 (by omega), s0 3 (by omega), s4 0 (by omega) (by omega), s4 1 (by omega) (by omega), s4 2 (by omega) (by omega), s4 3 (by omega) (by omega), s4 4 (by omega) (by omega), s4 5 (by omega) (by omega), s6, s7]
        exact ⟨c1, c2, c3, c4, c5, c6, ⟨by rw [gl_ul_ne _ _ (by omega), gl_ul_eq, wrL_id q1], by rw [gl_ul_eq, wrL_id q2]⟩, t1, t15, t30, t44⟩
      · rw [if_neg (fun q => h3 q.2.2)]
        simp (disch := first | with_reducible assumption | omega | exact ga_in _ _ _ | exact gg_in _ _ _ | (unfold InR; omega) | (unfold InL; omega) | (simp only [shC_0, shC_1, shC_2, shC_3, shC_4, shC_5, shC_6, shC_7, shC_8, shC_9, shC_10, shC_11, shC_12, shC_13, shC_14, shC_15, shC_30, shC_44, shC_29, shC_58, shC_59, shC_60, shC_61, shC_62, shC_63, shC_64, shC_65, shC_66, shC_67, shC_68, shC_69, shC_70, shL_2, shL_3, shL_4, shL_5, shL_6, shL_8, shL_10, shL_12, shL_14, shL_29, shL_58, shL_60, shL_62, shL_63, shL_65, shL_66, shL_67, shL_68, shL_69, shL_70]; first | done | omega)) only [q74_0, q74_1, q74_4, q74_5, q74_8, q74_11, q74_12, q74_13, q74_14, q74_17, q74_20, q74_23, q74_26, q74_29, q74_30, q74_31, q74_33, q74_36, q74_39, q74_40, q74_43, q74_44, q74_45, q74_47, q74_48, q74_50, q74_51, shC_0, shC_1, shC_2, shC_3, shC_4, shC_5, shC_6, shC_7, shC_8, shC_9, shC_10, shC_11, shC_12, shC_13, shC_14, shC_15, shC_30, shC_44, shC_29, shC_58, shC_59, shC_60, shC_61, shC_62, shC_63, shC_64, shC_65, shC_66, shC_67, shC_68, shC_69, shC_70, shL_2, shL_3, shL_4, shL_5, shL_6, shL_8, shL_10, shL_12, shL_14, shL_29, shL_58, shL_60, shL_62, shL_63, shL_65, shL_66, shL_67, shL_68, shL_69, shL_70, shR_0_0, shR_0_1, shR_0_2, shR_0_3, shR_0_4, shR_0_5, shR_0_6, shR_0_7, shR_1_3, shR_1_4, shR_1_5, shR_1_6, shR_1_7, shR_1_8, shR_1_9, shR_1_10, shR_1_11, shR_7_2, shR_9_2, shR_11_2, shR_13_0, shR_59_0, shR_61_0, shR_61_1, shR_61_2, shR_64_0, shR_64_1, shR_64_2, shR_64_3, shR_64_4, shR_64_5, k35 T1, k86, h1, h2, h3, e0, k87, k82, pushR_I, pushR_L, pushR_R, pushR_V, InR_gg, InR_ga, InR_wr, InL_gl, InR_b, b01, b01_0, if_true, if_false, not_true_eq_false, not_false_eq_true, and_true, true_and, and_self, Sum.inl.injEq, one0, Bool.false_eq_true]
        exact OP_bad h
    · rw [if_neg (fun q => h2 q.2.1)]
      simp (disch := first | with_reducible assumption | omega | exact ga_in _ _ _ | exact gg_in _ _ _ | (unfold InR; omega) | (unfold InL; omega) | (simp only [shC_0, shC_1, shC_2, shC_3, shC_4, shC_5, shC_6, shC_7, shC_8, shC_9, shC_10, shC_11, shC_12, shC_13, shC_14, shC_15, shC_30, shC_44, shC_29, shC_58, shC_59, shC_60, shC_61, shC_62, shC_63, shC_64, shC_65, shC_66, shC_67, shC_68, shC_69, shC_70, shL_2, shL_3, shL_4, shL_5, shL_6, shL_8, shL_10, shL_12, shL_14, shL_29, shL_58, shL_60, shL_62, shL_63, shL_65, shL_66, shL_67, shL_68, shL_69, shL_70]; first | done | omega)) only [q74_0, q74_1, q74_4, q74_5, q74_8, q74_11, q74_12, q74_13, q74_14, q74_17, q74_20, q74_23, q74_26, q74_29, q74_30, q74_31, q74_33, q74_36, q74_39, q74_40, q74_43, q74_44, q74_45, q74_47, q74_48, q74_50, q74_51, shC_0, shC_1, shC_2, shC_3, shC_4, shC_5, shC_6, shC_7, shC_8, shC_9, shC_10, shC_11, shC_12, shC_13, shC_14, shC_15, shC_30, shC_44, shC_29, shC_58, shC_59, shC_60, shC_61, shC_62, shC_63, shC_64, shC_65, shC_66, shC_67, shC_68, shC_69, shC_70, shL_2, shL_3, shL_4, shL_5, shL_6, shL_8, shL_10, shL_12, shL_14, shL_29, shL_58, shL_60, shL_62, shL_63, shL_65, shL_66, shL_67, shL_68, shL_69, shL_70, shR_0_0, shR_0_1, shR_0_2, shR_0_3, shR_0_4, shR_0_5, shR_0_6, shR_0_7, shR_1_3, shR_1_4, shR_1_5, shR_1_6, shR_1_7, shR_1_8, shR_1_9, shR_1_10, shR_1_11, shR_7_2, shR_9_2, shR_11_2, shR_13_0, shR_59_0, shR_61_0, shR_61_1, shR_61_2, shR_64_0, shR_64_1, shR_64_2, shR_64_3, shR_64_4, shR_64_5, k35 T1, k86, h1, h2, e0, k87, k82, pushR_I, pushR_L, pushR_R, pushR_V, InR_gg, InR_ga, InR_wr, InL_gl, InR_b, b01, b01_0, if_true, if_false, not_true_eq_false, not_false_eq_true, and_true, true_and, and_self, Sum.inl.injEq, one0, Bool.false_eq_true]
      exact OP_bad h
  · rw [if_neg (fun q => h1 (by have := q.1; unfold hasO at this; omega))]
    simp (disch := first | with_reducible assumption | omega | exact ga_in _ _ _ | exact gg_in _ _ _ | (unfold InR; omega) | (unfold InL; omega) | (simp only [shC_0, shC_1, shC_2, shC_3, shC_4, shC_5, shC_6, shC_7, shC_8, shC_9, shC_10, shC_11, shC_12, shC_13, shC_14, shC_15, shC_30, shC_44, shC_29, shC_58, shC_59, shC_60, shC_61, shC_62, shC_63, shC_64, shC_65, shC_66, shC_67, shC_68, shC_69, shC_70, shL_2, shL_3, shL_4, shL_5, shL_6, shL_8, shL_10, shL_12, shL_14, shL_29, shL_58, shL_60, shL_62, shL_63, shL_65, shL_66, shL_67, shL_68, shL_69, shL_70]; first | done | omega)) only [q74_0, q74_1, q74_4, q74_5, q74_8, q74_11, q74_12, q74_13, q74_14, q74_17, q74_20, q74_23, q74_26, q74_29, q74_30, q74_31, q74_33, q74_36, q74_39, q74_40, q74_43, q74_44, q74_45, q74_47, q74_48, q74_50, q74_51, shC_0, shC_1, shC_2, shC_3, shC_4, shC_5, shC_6, shC_7, shC_8, shC_9, shC_10, shC_11, shC_12, shC_13, shC_14, shC_15, shC_30, shC_44, shC_29, shC_58, shC_59, shC_60, shC_61, shC_62, shC_63, shC_64, shC_65, shC_66, shC_67, shC_68, shC_69, shC_70, shL_2, shL_3, shL_4, shL_5, shL_6, shL_8, shL_10, shL_12, shL_14, shL_29, shL_58, shL_60, shL_62, shL_63, shL_65, shL_66, shL_67, shL_68, shL_69, shL_70, shR_0_0, shR_0_1, shR_0_2, shR_0_3, shR_0_4, shR_0_5, shR_0_6, shR_0_7, shR_1_3, shR_1_4, shR_1_5, shR_1_6, shR_1_7, shR_1_8, shR_1_9, shR_1_10, shR_1_11, shR_7_2, shR_9_2, shR_11_2, shR_13_0, shR_59_0, shR_61_0, shR_61_1, shR_61_2, shR_64_0, shR_64_1, shR_64_2, shR_64_3, shR_64_4, shR_64_5, k35 T1, h1, k82, pushR_I, pushR_L, pushR_R, pushR_V, InR_gg, InR_ga, InR_wr, InL_gl, InR_b, b01, b01_0, if_true, if_false, not_true_eq_false, not_false_eq_true, and_true, true_and, and_self, Sum.inl.injEq, one0, Bool.false_eq_true]
    exact OP_bad h
end OPS7
