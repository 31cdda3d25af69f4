-- the reference: what asks for the best
section MOPS5
variable {d : Nat} {σ : SG} {S : Nat → Int → Int} {K : AV → SG → Prop} {Q : AV → SG → Prop} {g : Int → Int} {m : Nat}
theorem MO_79 {τ : SG} {v : Int} (h : MR σ S) (hs : ONE 79 σ τ) : OPM σ (v, S) (.inl v) τ := ⟨rfl, MR_scr h (fun a b q => hs.1 a b (by unfold MRk at q; omega)) (fun b => hs.2 71 b), MLO_one hs (by omega)⟩
theorem hasb_hi {p : Nat → Bool} {n j : Nat} (h : n ≤ j) : hasb (orF p 0 n 0) j = false := by
  obtain ⟨h1, h2⟩ := orF_lt (p := p) n 0 0 (by omega) (by omega)
  rw [Nat.zero_add] at h2
  unfold hasb
  apply decide_eq_false
  have hp : (2 : Int) ^ n ≤ 2 ^ j := by
    have : (2 : Nat) ^ n ≤ 2 ^ j := Nat.pow_le_pow_right (by omega) h
    have e1 : ((2 ^ n : Nat) : Int) = 2 ^ n := by simp
    have e2 : ((2 ^ j : Nat) : Int) = 2 ^ j := by simp
    omega
  rw [Int.ediv_eq_zero_of_lt h1 (by omega)]
  omega
def tlM (g : Int → Int) (o k dd : Int) (l : Nat) : Int := tkI (g (29 + o)) (ltI (g (14 + (l : Int))) (g (21 + (l : Int))) k dd) (g (1 + o))
theorem l178 (hr : RW σ 72 221 g) (hg : GOK g) {o k dd : Int} (ho : 0 ≤ o ∧ o < g 28) (hk : 0 ≤ k ∧ k ≤ 9) (hd : 0 ≤ dd ∧ dd ≤ 100) : ∀ (n l : Nat), (l : Int) + n = g 13 →
    Wp none (d + 3) 178 3 [.inr (.inr (.inl 71)), .inl o, .inl k, .inl dd, .inl (l : Int)] [] (mR σ 79 0 l (tlM g o k dd)) Q = Q aU (mR σ 79 0 (g 13).toNat (tlM g o k dd)) := by
  have c221 : ((221 : Nat) : Int) = 221 := rfl
  have c7 : ((7 : Nat) : Int) = 7 := rfl
  obtain ⟨g1, g2, g3, g4, g5, -⟩ := hg
  obtain ⟨y4, y5⟩ := g5 o ho.1 ho.2
  intro n
  induction n with
  | zero =>
    intro l hl
    have e : g 13 ≤ (l : Int) := by omega
    have el : (g 13).toNat = l := by omega
    have e13 : ga (mR σ 79 0 l (tlM g o k dd)) 72 13 = g 13 := by rw [ga_mR_ne _ (by omega)]; exact hr _ (by omega) (by omega)
    simp (disch := first | with_reducible assumption | omega | exact ga_in _ _ _ | exact gg_in _ _ _ | (unfold InR; omega) | (unfold InL; omega) | (simp only [shC_71, shC_72, shC_73, shC_74, shC_75, shC_76, shC_77, shC_78, shC_79, shL_72, shL_73, shL_74, shL_75, shL_76, shL_77, shL_78, shL_79]; first | done | omega)) only [q178_3, q178_5, q178_6, q178_9, q178_11, q178_12, q178_73, shC_71, shC_72, shC_73, shC_74, shC_75, shC_76, shC_77, shC_78, shC_79, shL_72, shL_73, shL_74, shL_75, shL_76, shL_77, shL_78, shL_79, shR_71_0, shR_71_1, shR_71_2, shR_71_3, shR_71_4, shR_71_5, shR_71_8, shR_71_15, c221, e13, e, el, pushR_I, pushR_L, pushR_R, pushR_V, InR_gg, InR_ga, InR_wr, InL_gl, InR_b, b01, b01_0, if_true, if_false, not_true_eq_false, not_false_eq_true, and_true, true_and, and_self, Sum.inl.injEq, one0, Bool.false_eq_true]
  | succ n ih =>
    intro l hl
    have e : ¬ g 13 ≤ (l : Int) := by omega
    have e13 : ga (mR σ 79 0 l (tlM g o k dd)) 72 13 = g 13 := by rw [ga_mR_ne _ (by omega)]; exact hr _ (by omega) (by omega)
    have e1 : ga (mR σ 79 0 l (tlM g o k dd)) 72 (29 + o) = g (29 + o) := by rw [ga_mR_ne _ (by omega)]; exact hr _ (by omega) (by omega)
    have e2 : ga (mR σ 79 0 l (tlM g o k dd)) 72 (14 + (l : Int)) = g (14 + (l : Int)) := by rw [ga_mR_ne _ (by omega)]; exact hr _ (by omega) (by omega)
    have e3 : ga (mR σ 79 0 l (tlM g o k dd)) 72 (21 + (l : Int)) = g (21 + (l : Int)) := by rw [ga_mR_ne _ (by omega)]; exact hr _ (by omega) (by omega)
    have e4 : ga (mR σ 79 0 l (tlM g o k dd)) 72 (1 + o) = g (1 + o) := by rw [ga_mR_ne _ (by omega)]; exact hr _ (by omega) (by omega)
    obtain ⟨y1, y2, y3⟩ := g4 (l : Int) (by omega) (by omega)
    have bl : 0 ≤ ltI (g (14 + (l : Int))) (g (21 + (l : Int))) k dd ∧ ltI (g (14 + (l : Int))) (g (21 + (l : Int))) k dd ≤ 4008 := ltI_b (by omega) (by omega)
    simp (disch := first | with_reducible assumption | omega | exact ga_in _ _ _ | exact gg_in _ _ _ | (unfold InR; omega) | (unfold InL; omega) | (simp only [shC_71, shC_72, shC_73, shC_74, shC_75, shC_76, shC_77, shC_78, shC_79, shL_72, shL_73, shL_74, shL_75, shL_76, shL_77, shL_78, shL_79]; first | done | omega)) only [q178_3, q178_5, q178_6, q178_9, q178_11, q178_12, q178_15, q178_16, q178_19, q178_21, q178_22, q178_25, q178_27, q178_28, q178_29, q178_30, q178_31, q178_34, q178_36, q178_38, q178_39, q178_40, q178_41, q178_44, q178_46, q178_48, q178_49, q178_50, q178_51, q178_52, q178_55, q178_56, q178_59, q178_60, q178_61, q178_62, q178_63, q178_66, q178_67, shC_71, shC_72, shC_73, shC_74, shC_75, shC_76, shC_77, shC_78, shC_79, shL_72, shL_73, shL_74, shL_75, shL_76, shL_77, shL_78, shL_79, shR_71_0, shR_71_1, shR_71_2, shR_71_3, shR_71_4, shR_71_5, shR_71_8, shR_71_15, c221, c7, e13, e, e1, e2, e3, e4, k126, k128, pushR_I, pushR_L, pushR_R, pushR_V, InR_gg, InR_ga, InR_wr, InL_gl, InR_b, b01, b01_0, if_true, if_false, not_true_eq_false, not_false_eq_true, and_true, true_and, and_self, Sum.inl.injEq, one0, Bool.false_eq_true]
    rw [q178_70, mR_step (b := 0) (i := l) (g := tlM g o k dd) (v := tkI (g (29 + o)) (ltI (g (14 + (l : Int))) (g (21 + (l : Int))) k dd) (g (1 + o))) σ (by omega) rfl]
    exact ih (l + 1) (by omega)
theorem m178 (hr : RW σ 72 221 g) (hg : GOK g) {o k dd : Int} (ho : 0 ≤ o ∧ o < g 28) (hk : 0 ≤ k ∧ k ≤ 9) (hd : 0 ≤ dd ∧ dd ≤ 100) : Cal (d + 4) 178 [.inr (.inr (.inl 71)), .inl o, .inl k, .inl dd] σ aU (mR σ 79 0 (g 13).toNat (tlM g o k dd)) := by
  have g1 := hg.1
  refine Cal_in (ls := [.inr (.inr (.inl 71)), .inl o, .inl k, .inl dd, aU]) rfl mna_178 mml_178 mhl_178 rfl rfl ?_
  simp (disch := first | with_reducible assumption | omega | exact ga_in _ _ _ | exact gg_in _ _ _ | (unfold InR; omega) | (unfold InL; omega) | (simp only [shC_71, shC_72, shC_73, shC_74, shC_75, shC_76, shC_77, shC_78, shC_79, shL_72, shL_73, shL_74, shL_75, shL_76, shL_77, shL_78, shL_79]; first | done | omega)) only [q178_0, q178_1, pushR_I, pushR_L, pushR_R, pushR_V, InR_gg, InR_ga, InR_wr, InL_gl, InR_b, b01, b01_0, if_true, if_false, not_true_eq_false, not_false_eq_true, and_true, true_and, and_self, Sum.inl.injEq, one0, Bool.false_eq_true]
  have h := l178 (d := d) (σ := σ) (Q := fun r1 σ1 => r1 = aU ∧ σ1 = mR σ 79 0 (g 13).toNat (tlM g o k dd)) hr hg ho hk hd (g 13).toNat 0 (by omega)
  rw [mR_0] at h
  exact h.mpr ⟨rfl, rfl⟩
theorem k178 (hr : RW σ 72 221 g) (hg : GOK g) {o k dd : Int} (ho : 0 ≤ o ∧ o < g 28) (hk : 0 ≤ k ∧ k ≤ 9) (hd : 0 ≤ dd ∧ dd ≤ 100) : CalK (d + 4) 178 [.inr (.inr (.inl 71)), .inl o, .inl k, .inl dd] σ K = K aU (mR σ 79 0 (g 13).toNat (tlM g o k dd)) := CalK_eq (m178 hr hg ho hk hd)
/-- numbers laid are numbers found -/
theorem lay_most {n : Nat} {x : Int} {f : Nat → Int} (hn : n ≤ 7) (hf : ∀ j, j < n → InR (f j)) (hx : ∀ j, n ≤ j → hasb x j = false) : mostL (cmpF (hasb x) (fun i => ga (mR σ 79 0 n f) 79 (i : Int)) 0 7) = mostL (cmpF (hasb x) f 0 n) := by
  congr 1
  rw [show (7 : Nat) = n + (7 - n) by omega, cmpF_more n 0 (fun j h1 _ => hx j (by omega))]
  refine cmpF_congr _ _ (fun _ _ _ => rfl) (fun j _ hj _ => ?_)
  rw [ga_mR _ _ _ _ _ _ (by omega), if_pos rfl, if_pos ⟨by omega, by omega⟩, Int.toNat_natCast, Nat.sub_zero, wr_id (hf j (by omega))]
theorem tell_M (hg : GOK g) {o : Int} (ho : 0 ≤ o ∧ o < g 28) {k dd : Nat} (hk : k ≤ 9) : mostL (cmpF (hasb (setW g)) (fun i => ga (mR σ 79 0 (g 13).toNat (tlM g o (k : Int) (dd : Int))) 79 (i : Int)) 0 7) = tellA g o dd k := by
  obtain ⟨g1, g2, g3, g4, g5, -⟩ := hg
  obtain ⟨y4, y5⟩ := g5 o ho.1 ho.2
  refine (lay_most (by omega) (fun j hj => ?_) (fun j hj => hasb_hi hj)).trans rfl
  obtain ⟨y1, y2, y3⟩ := g4 (j : Int) (by omega) (by omega)
  have bl : 0 ≤ ltI (g (14 + (j : Int))) (g (21 + (j : Int))) (k : Int) (dd : Int) ∧ ltI (g (14 + (j : Int))) (g (21 + (j : Int))) (k : Int) (dd : Int) ≤ 4008 := ltI_b (by omega) (by omega)
  have bt := tkI_b (kind := g (29 + o)) bl y5
  exact ⟨by unfold tlM; omega, by unfold tlM; omega⟩
theorem l179i (hr : RW σ 72 221 g) (hg : GOK g) {o : Int} (ho : 0 ≤ o ∧ o < g 28) {dd : Nat} (hd : dd ≤ 9) : ∀ (n k : Nat) (B : Int × Int) (τ : SG) (w7 : AV), k + n = 3 → ONE 79 σ τ → bstB B →
    (∀ τ' w, bstB (foldU (fun k B => bstS (tellA g o dd k) (10 * (dd : Int) + (k : Int)) B) n k B) → ONE 79 σ τ' → Wp none (d + 19) 179 105 [.inr (.inr (.inl 71)), .inl o, .inl (setW g), .inl (foldU (fun k B => bstS (tellA g o dd k) (10 * (dd : Int) + (k : Int)) B) n k B).1, .inl (foldU (fun k B => bstS (tellA g o dd k) (10 * (dd : Int) + (k : Int)) B) n k B).2, .inl (dd : Int), .inl 3, w] [] τ' Q) →
    Wp none (d + 19) 179 41 [.inr (.inr (.inl 71)), .inl o, .inl (setW g), .inl B.1, .inl B.2, .inl (dd : Int), .inl (k : Int), w7] [] τ Q := by
  have g1 := hg.1
  have g28 := hg.2.1
  have hb : 0 ≤ setW g ∧ setW g < 128 := set_b (by omega)
  intro n
  induction n with
  | zero =>
    intro k B τ w7 hk hs hB hq
    have e : k = 3 := by omega
    subst e
    have e1 : ((3 : Nat) : Int) = 3 := rfl
    simp (disch := first | with_reducible assumption | omega | exact ga_in _ _ _ | exact gg_in _ _ _ | (unfold InR; omega) | (unfold InL; omega) | (simp only [shC_71, shC_72, shC_73, shC_74, shC_75, shC_76, shC_77, shC_78, shC_79, shL_72, shL_73, shL_74, shL_75, shL_76, shL_77, shL_78, shL_79]; first | done | omega)) only [q179_41, q179_43, q179_44, e1, Int.le_refl, pushR_I, pushR_L, pushR_R, pushR_V, InR_gg, InR_ga, InR_wr, InL_gl, InR_b, b01, b01_0, if_true, if_false, not_true_eq_false, not_false_eq_true, and_true, true_and, and_self, Sum.inl.injEq, one0, Bool.false_eq_true]
    exact hq τ w7 hB hs
  | succ n ih =>
    intro k B τ w7 hk hs hB hq
    have hrt := RW_other hr hs (by omega)
    have e2 : ¬ (3 : Int) ≤ (k : Int) := by omega
    have ab := tellA_b hg (o := o) k dd
    have em := tell_M (σ := τ) hg ho (k := k) (dd := dd) (by omega)
    have hs3 : ONE 79 σ (mR τ 79 0 (g 13).toNat (tlM g o (k : Int) (dd : Int))) := ONE_mR hs
    obtain ⟨⟨B1, B2⟩, B3, B4⟩ := hB
    by_cases c : tellA g o dd k < B.2
    · have c' : ¬ B.2 ≤ tellA g o dd k := by omega
      simp (disch := first | with_reducible assumption | omega | exact ga_in _ _ _ | exact gg_in _ _ _ | (unfold InR; omega) | (unfold InL; omega) | (simp only [shC_71, shC_72, shC_73, shC_74, shC_75, shC_76, shC_77, shC_78, shC_79, shL_72, shL_73, shL_74, shL_75, shL_76, shL_77, shL_78, shL_79]; first | done | omega)) only [q179_41, q179_43, q179_44, q179_47, q179_48, q179_49, q179_51, q179_53, q179_56, q179_57, q179_58, q179_61, q179_63, q179_65, q179_67, q179_70, q179_72, q179_74, q179_75, q179_77, q179_78, q179_81, q179_82, q179_83, q179_85, q179_87, q179_90, q179_92, q179_95, q179_97, q179_99, e2, k178 hrt hg ho (k := (k : Int)) (dd := (dd : Int)) (by omega) (by omega), k177 hb, em, c', pushR_I, pushR_L, pushR_R, pushR_V, InR_gg, InR_ga, InR_wr, InL_gl, InR_b, b01, b01_0, if_true, if_false, not_true_eq_false, not_false_eq_true, and_true, true_and, and_self, Sum.inl.injEq, one0, Bool.false_eq_true]
      rw [q179_102]
      have eb : bstS (tellA g o dd k) (10 * (dd : Int) + (k : Int)) B = (10 * (dd : Int) + (k : Int), tellA g o dd k) := by unfold bstS; rw [if_pos c]
      simp only [foldU] at hq
      rw [eb] at hq
      exact ih (k + 1) (10 * (dd : Int) + (k : Int), tellA g o dd k) _ _ (by omega) hs3 ⟨⟨by show -1 ≤ 10 * (dd : Int) + (k : Int); omega, by show 10 * (dd : Int) + (k : Int) ≤ 1000; omega⟩, ab.1, by show tellA g o dd k ≤ 100; omega⟩ hq
    · have c' : B.2 ≤ tellA g o dd k := by omega
      simp (disch := first | with_reducible assumption | omega | exact ga_in _ _ _ | exact gg_in _ _ _ | (unfold InR; omega) | (unfold InL; omega) | (simp only [shC_71, shC_72, shC_73, shC_74, shC_75, shC_76, shC_77, shC_78, shC_79, shL_72, shL_73, shL_74, shL_75, shL_76, shL_77, shL_78, shL_79]; first | done | omega)) only [q179_41, q179_43, q179_44, q179_47, q179_48, q179_49, q179_51, q179_53, q179_56, q179_57, q179_58, q179_61, q179_63, q179_65, q179_67, q179_70, q179_72, q179_74, q179_75, q179_77, q179_78, q179_81, q179_82, q179_83, q179_85, q179_87, q179_90, q179_92, q179_95, q179_97, q179_99, e2, k178 hrt hg ho (k := (k : Int)) (dd := (dd : Int)) (by omega) (by omega), k177 hb, em, c', pushR_I, pushR_L, pushR_R, pushR_V, InR_gg, InR_ga, InR_wr, InL_gl, InR_b, b01, b01_0, if_true, if_false, not_true_eq_false, not_false_eq_true, and_true, true_and, and_self, Sum.inl.injEq, one0, Bool.false_eq_true]
      rw [q179_102]
      have eb : bstS (tellA g o dd k) (10 * (dd : Int) + (k : Int)) B = B := by unfold bstS; rw [if_neg c]
      simp only [foldU] at hq
      rw [eb] at hq
      exact ih (k + 1) B _ _ (by omega) hs3 ⟨⟨B1, B2⟩, B3, B4⟩ hq
theorem l179 (hr : RW σ 72 221 g) (hg : GOK g) {o : Int} (ho : 0 ≤ o ∧ o < g 28) (hn : ¬ setW g = 0) : ∀ (n dd : Nat) (B : Int × Int) (τ : SG) (w6 w7 : AV), dd + n = 10 → ONE 79 σ τ → bstB B →
    (∀ τ', ONE 79 σ τ' → Q (.inl (foldU (tellB g o) n dd B).1) τ') →
    Wp none (d + 19) 179 27 [.inr (.inr (.inl 71)), .inl o, .inl (setW g), .inl B.1, .inl B.2, .inl (dd : Int), w6, w7] [] τ Q := by
  have g1 := hg.1
  have hb : 0 ≤ setW g ∧ setW g < 128 := set_b (by omega)
  intro n
  induction n with
  | zero =>
    intro dd B τ w6 w7 hd hs hB hq
    have e2 : (10 : Int) ≤ (dd : Int) := by omega
    obtain ⟨⟨B1, B2⟩, B3, B4⟩ := hB
    simp (disch := first | with_reducible assumption | omega | exact ga_in _ _ _ | exact gg_in _ _ _ | (unfold InR; omega) | (unfold InL; omega) | (simp only [shC_71, shC_72, shC_73, shC_74, shC_75, shC_76, shC_77, shC_78, shC_79, shL_72, shL_73, shL_74, shL_75, shL_76, shL_77, shL_78, shL_79]; first | done | omega)) only [q179_27, q179_29, q179_31, q179_34, q179_35, q179_111, q179_112, e2, pushR_I, pushR_L, pushR_R, pushR_V, InR_gg, InR_ga, InR_wr, InL_gl, InR_b, b01, b01_0, if_true, if_false, not_true_eq_false, not_false_eq_true, and_true, true_and, and_self, Sum.inl.injEq, one0, Bool.false_eq_true]
    exact hq τ hs
  | succ n ih =>
    intro dd B τ w6 w7 hd hs hB hq
    have e2 : ¬ (10 : Int) ≤ (dd : Int) := by omega
    simp (disch := first | with_reducible assumption | omega | exact ga_in _ _ _ | exact gg_in _ _ _ | (unfold InR; omega) | (unfold InL; omega) | (simp only [shC_71, shC_72, shC_73, shC_74, shC_75, shC_76, shC_77, shC_78, shC_79, shL_72, shL_73, shL_74, shL_75, shL_76, shL_77, shL_78, shL_79]; first | done | omega)) only [q179_27, q179_29, q179_31, q179_34, q179_35, q179_38, q179_39, e2, hn, pushR_I, pushR_L, pushR_R, pushR_V, InR_gg, InR_ga, InR_wr, InL_gl, InR_b, b01, b01_0, if_true, if_false, not_true_eq_false, not_false_eq_true, and_true, true_and, and_self, Sum.inl.injEq, one0, Bool.false_eq_true]
    refine l179i hr hg ho (dd := dd) (by omega) 3 0 B τ _ (by omega) hs hB (fun τ' w hB' hs' => ?_)
    simp (disch := first | with_reducible assumption | omega | exact ga_in _ _ _ | exact gg_in _ _ _ | (unfold InR; omega) | (unfold InL; omega) | (simp only [shC_71, shC_72, shC_73, shC_74, shC_75, shC_76, shC_77, shC_78, shC_79, shL_72, shL_73, shL_74, shL_75, shL_76, shL_77, shL_78, shL_79]; first | done | omega)) only [q179_105, pushR_I, pushR_L, pushR_R, pushR_V, InR_gg, InR_ga, InR_wr, InL_gl, InR_b, b01, b01_0, if_true, if_false, not_true_eq_false, not_false_eq_true, and_true, true_and, and_self, Sum.inl.injEq, one0, Bool.false_eq_true]
    rw [q179_108]
    exact ih (dd + 1) _ τ' _ _ (by omega) hs' hB' hq
theorem o179 (h : MR σ S) (hS : SOK S) {o : Int} (ho : InR o) : CalE (d + 20) 179 [.inr (.inr (.inl 71)), .inl o] σ (OPM σ (fTell S o)) := by
  have hO := MOKn h.1 (by omega) hS.1
  have e28 : ga σ 72 28 = S 0 28 := h.1 28 (by omega) (by omega)
  have g1 := hS.1.1
  have hb : 0 ≤ setW (S 0) ∧ setW (S 0) < 128 := set_b (by omega)
  refine Cal_ex (ls := [.inr (.inr (.inl 71)), .inl o, aU, aU, aU, aU, aU, aU]) rfl mna_179 mml_179 mhl_179 rfl rfl ?_
  unfold fTell
  by_cases h1 : 0 ≤ o ∧ o < ga σ 72 28
  · have h1' : 0 ≤ o ∧ o < S 0 28 := by omega
    rw [if_pos h1']
    simp (disch := first | with_reducible assumption | omega | exact ga_in _ _ _ | exact gg_in _ _ _ | (unfold InR; omega) | (unfold InL; omega) | (simp only [shC_71, shC_72, shC_73, shC_74, shC_75, shC_76, shC_77, shC_78, shC_79, shL_72, shL_73, shL_74, shL_75, shL_76, shL_77, shL_78, shL_79]; first | done | omega)) only [q179_0, q179_1, q179_2, q179_5, q179_8, q179_9, q179_12, q179_13, q179_14, q179_17, q179_18, q179_19, q179_20, q179_22, q179_24, q179_25, shC_71, shC_72, shC_73, shC_74, shC_75, shC_76, shC_77, shC_78, shC_79, shL_72, shL_73, shL_74, shL_75, shL_76, shL_77, shL_78, shL_79, shR_71_0, shR_71_1, shR_71_2, shR_71_3, shR_71_4, shR_71_5, shR_71_8, shR_71_15, k123 hO.2.1, h1, k176 h.1 hS.1, pushR_I, pushR_L, pushR_R, pushR_V, InR_gg, InR_ga, InR_wr, InL_gl, InR_b, b01, b01_0, if_true, if_false, not_true_eq_false, not_false_eq_true, and_true, true_and, and_self, Sum.inl.injEq, one0, Bool.false_eq_true]
    by_cases hz : setW (S 0) = 0
    · have e9 : ¬ (10 : Int) ≤ 0 := by omega
      rw [if_pos hz]
      simp (disch := first | with_reducible assumption | omega | exact ga_in _ _ _ | exact gg_in _ _ _ | (unfold InR; omega) | (unfold InL; omega) | (simp only [shC_71, shC_72, shC_73, shC_74, shC_75, shC_76, shC_77, shC_78, shC_79, shL_72, shL_73, shL_74, shL_75, shL_76, shL_77, shL_78, shL_79]; first | done | omega)) only [q179_27, q179_29, q179_31, q179_34, q179_35, q179_111, q179_112, e9, hz, pushR_I, pushR_L, pushR_R, pushR_V, InR_gg, InR_ga, InR_wr, InL_gl, InR_b, b01, b01_0, if_true, if_false, not_true_eq_false, not_false_eq_true, and_true, true_and, and_self, Sum.inl.injEq, one0, Bool.false_eq_true]
      exact MO_id h
    · rw [if_neg hz]
      exact l179 (d := d) h.1 hS.1 h1' hz 10 0 (-1, 99) σ _ _ (by omega) (ONE_refl _ _) ⟨⟨by show (-1 : Int) ≤ -1; omega, by show (-1 : Int) ≤ 1000; omega⟩, by show (0 : Int) ≤ 99; omega, by show (99 : Int) ≤ 100; omega⟩ (fun τ' hs => MO_79 h hs)
  · rw [if_neg (fun q => h1 (by unfold hasO at q; omega))]
    simp (disch := first | with_reducible assumption | omega | exact ga_in _ _ _ | exact gg_in _ _ _ | (unfold InR; omega) | (unfold InL; omega) | (simp only [shC_71, shC_72, shC_73, shC_74, shC_75, shC_76, shC_77, shC_78, shC_79, shL_72, shL_73, shL_74, shL_75, shL_76, shL_77, shL_78, shL_79]; first | done | omega)) only [q179_0, q179_1, q179_2, q179_5, q179_8, q179_9, q179_12, q179_13, q179_14, q179_17, q179_18, q179_19, q179_20, q179_22, q179_24, q179_25, shC_71, shC_72, shC_73, shC_74, shC_75, shC_76, shC_77, shC_78, shC_79, shL_72, shL_73, shL_74, shL_75, shL_76, shL_77, shL_78, shL_79, shR_71_0, shR_71_1, shR_71_2, shR_71_3, shR_71_4, shR_71_5, shR_71_8, shR_71_15, k123 hO.2.1, h1, k118, pushR_I, pushR_L, pushR_R, pushR_V, InR_gg, InR_ga, InR_wr, InL_gl, InR_b, b01, b01_0, if_true, if_false, not_true_eq_false, not_false_eq_true, and_true, true_and, and_self, Sum.inl.injEq, one0, Bool.false_eq_true]
    exact MO_bad h
def lkM (g : Int → Int) (l k dd : Int) (kd : Nat) : Int := ltI (kd : Int) (g (21 + l)) k dd
theorem l185k (hr : RW σ 72 221 g) (hg : GOK g) {l k dd : Int} (hl : 0 ≤ l ∧ l < g 13) (hk : 0 ≤ k ∧ k ≤ 9) (hd : 0 ≤ dd ∧ dd ≤ 100) {v2 v3 v4 : AV} : ∀ (n i : Nat), i + n = 6 →
    Wp none (d + 19) 185 51 [.inr (.inr (.inl 71)), .inl l, v2, v3, v4, .inl k, .inl dd, .inl (i : Int)] [] (mR σ 79 0 i (lkM g l k dd)) Q = Wp none (d + 19) 185 89 [.inr (.inr (.inl 71)), .inl l, v2, v3, v4, .inl k, .inl dd, .inl 6] [] (mR σ 79 0 6 (lkM g l k dd)) Q := by
  have c221 : ((221 : Nat) : Int) = 221 := rfl
  have c7 : ((7 : Nat) : Int) = 7 := rfl
  have g1 := hg.1
  obtain ⟨y1, y2, y3⟩ := hg.2.2.2.1 l hl.1 hl.2
  intro n
  induction n with
  | zero =>
    intro i hi
    have e : i = 6 := by omega
    subst e
    have e1 : ((6 : Nat) : Int) = 6 := rfl
    simp (disch := first | with_reducible assumption | omega | exact ga_in _ _ _ | exact gg_in _ _ _ | (unfold InR; omega) | (unfold InL; omega) | (simp only [shC_71, shC_72, shC_73, shC_74, shC_75, shC_76, shC_77, shC_78, shC_79, shL_72, shL_73, shL_74, shL_75, shL_76, shL_77, shL_78, shL_79]; first | done | omega)) only [q185_51, q185_53, q185_55, e1, Int.le_refl, pushR_I, pushR_L, pushR_R, pushR_V, InR_gg, InR_ga, InR_wr, InL_gl, InR_b, b01, b01_0, if_true, if_false, not_true_eq_false, not_false_eq_true, and_true, true_and, and_self, Sum.inl.injEq, one0, Bool.false_eq_true]
  | succ n ih =>
    intro i hi
    have e : ¬ (6 : Int) ≤ (i : Int) := by omega
    have e3 : ga (mR σ 79 0 i (lkM g l k dd)) 72 (21 + l) = g (21 + l) := by rw [ga_mR_ne _ (by omega)]; exact hr _ (by omega) (by omega)
    simp (disch := first | with_reducible assumption | omega | exact ga_in _ _ _ | exact gg_in _ _ _ | (unfold InR; omega) | (unfold InL; omega) | (simp only [shC_71, shC_72, shC_73, shC_74, shC_75, shC_76, shC_77, shC_78, shC_79, shL_72, shL_73, shL_74, shL_75, shL_76, shL_77, shL_78, shL_79]; first | done | omega)) only [q185_51, q185_53, q185_55, q185_58, q185_59, q185_62, q185_64, q185_66, q185_67, q185_70, q185_72, q185_73, q185_74, q185_75, q185_77, q185_79, q185_82, q185_83, shC_71, shC_72, shC_73, shC_74, shC_75, shC_76, shC_77, shC_78, shC_79, shL_72, shL_73, shL_74, shL_75, shL_76, shL_77, shL_78, shL_79, shR_71_0, shR_71_1, shR_71_2, shR_71_3, shR_71_4, shR_71_5, shR_71_8, shR_71_15, c221, c7, e, e3, k126, pushR_I, pushR_L, pushR_R, pushR_V, InR_gg, InR_ga, InR_wr, InL_gl, InR_b, b01, b01_0, if_true, if_false, not_true_eq_false, not_false_eq_true, and_true, true_and, and_self, Sum.inl.injEq, one0, Bool.false_eq_true]
    rw [q185_86, mR_step (b := 0) (i := i) (g := lkM g l k dd) (v := ltI (i : Int) (g (21 + l)) k dd) σ (by omega) rfl]
    exact ih (i + 1) (by omega)
theorem look_M (hg : GOK g) {l : Int} (hl : 0 ≤ l ∧ l < g 13) {k dd : Nat} (hk : k ≤ 9) : mostL (cmpF (hasb (setL g l)) (fun i => ga (mR σ 79 0 6 (lkM g l (k : Int) (dd : Int))) 79 (i : Int)) 0 7) = lookA g l k dd := by
  obtain ⟨y1, y2, y3⟩ := hg.2.2.2.1 l hl.1 hl.2
  refine (lay_most (by omega) (fun j hj => ?_) (fun j hj => hasb_hi hj)).trans rfl
  have bl : 0 ≤ ltI (j : Int) (g (21 + l)) (k : Int) (dd : Int) ∧ ltI (j : Int) (g (21 + l)) (k : Int) (dd : Int) ≤ 4008 := ltI_b (by omega) (by omega)
  exact ⟨by unfold lkM; omega, by unfold lkM; omega⟩
theorem l185i (hr : RW σ 72 221 g) (hg : GOK g) {l : Int} (hl : 0 ≤ l ∧ l < g 13) {k : Nat} (hk : k ≤ 3) : ∀ (n dd : Nat) (B : Int × Int) (τ : SG) (w7 : AV), dd + n = 21 → ONE 79 σ τ → bstB B →
    (∀ τ' w, bstB (foldU (fun dd B => bstS (lookA g l k dd) (100 * (k : Int) + (dd : Int)) B) n dd B) → ONE 79 σ τ' → Wp none (d + 19) 185 138 [.inr (.inr (.inl 71)), .inl l, .inl (setL g l), .inl (foldU (fun dd B => bstS (lookA g l k dd) (100 * (k : Int) + (dd : Int)) B) n dd B).1, .inl (foldU (fun dd B => bstS (lookA g l k dd) (100 * (k : Int) + (dd : Int)) B) n dd B).2, .inl (k : Int), .inl 21, w] [] τ' Q) →
    Wp none (d + 19) 185 41 [.inr (.inr (.inl 71)), .inl l, .inl (setL g l), .inl B.1, .inl B.2, .inl (k : Int), .inl (dd : Int), w7] [] τ Q := by
  have hb : 0 ≤ setL g l ∧ setL g l < 128 := set_b (by omega)
  intro n
  induction n with
  | zero =>
    intro dd B τ w7 hd hs hB hq
    have e : dd = 21 := by omega
    subst e
    have e1 : ((21 : Nat) : Int) = 21 := rfl
    have e2 : (20 : Int) < 21 := by omega
    simp (disch := first | with_reducible assumption | omega | exact ga_in _ _ _ | exact gg_in _ _ _ | (unfold InR; omega) | (unfold InL; omega) | (simp only [shC_71, shC_72, shC_73, shC_74, shC_75, shC_76, shC_77, shC_78, shC_79, shL_72, shL_73, shL_74, shL_75, shL_76, shL_77, shL_78, shL_79]; first | done | omega)) only [q185_41, q185_43, q185_45, e1, e2, pushR_I, pushR_L, pushR_R, pushR_V, InR_gg, InR_ga, InR_wr, InL_gl, InR_b, b01, b01_0, if_true, if_false, not_true_eq_false, not_false_eq_true, and_true, true_and, and_self, Sum.inl.injEq, one0, Bool.false_eq_true]
    exact hq τ w7 hB hs
  | succ n ih =>
    intro dd B τ w7 hd hs hB hq
    have hrt := RW_other hr hs (by omega)
    have e2 : ¬ (20 : Int) < (dd : Int) := by omega
    have ab := lookA_b (g := g) (l := l) k dd
    have em := look_M (σ := τ) hg hl (k := k) (dd := dd) (by omega)
    have hs3 : ONE 79 σ (mR τ 79 0 6 (lkM g l (k : Int) (dd : Int))) := ONE_mR hs
    obtain ⟨⟨B1, B2⟩, B3, B4⟩ := hB
    simp (disch := first | with_reducible assumption | omega | exact ga_in _ _ _ | exact gg_in _ _ _ | (unfold InR; omega) | (unfold InL; omega) | (simp only [shC_71, shC_72, shC_73, shC_74, shC_75, shC_76, shC_77, shC_78, shC_79, shL_72, shL_73, shL_74, shL_75, shL_76, shL_77, shL_78, shL_79]; first | done | omega)) only [q185_41, q185_43, q185_45, q185_48, q185_49, e2, pushR_I, pushR_L, pushR_R, pushR_V, InR_gg, InR_ga, InR_wr, InL_gl, InR_b, b01, b01_0, if_true, if_false, not_true_eq_false, not_false_eq_true, and_true, true_and, and_self, Sum.inl.injEq, one0, Bool.false_eq_true]
    have hl2 := l185k (d := d) (σ := τ) (Q := Q) (v2 := .inl (setL g l)) (v3 := .inl B.1) (v4 := .inl B.2) hrt hg hl (k := (k : Int)) (dd := (dd : Int)) (by omega) (by omega) 6 0 (by omega)
    rw [mR_0] at hl2
    refine hl2.mpr ?_
    by_cases c : lookA g l k dd < B.2
    · have c' : ¬ B.2 ≤ lookA g l k dd := by omega
      simp (disch := first | with_reducible assumption | omega | exact ga_in _ _ _ | exact gg_in _ _ _ | (unfold InR; omega) | (unfold InL; omega) | (simp only [shC_71, shC_72, shC_73, shC_74, shC_75, shC_76, shC_77, shC_78, shC_79, shL_72, shL_73, shL_74, shL_75, shL_76, shL_77, shL_78, shL_79]; first | done | omega)) only [q185_89, q185_90, q185_91, q185_94, q185_96, q185_98, q185_100, q185_103, q185_105, q185_107, q185_108, q185_110, q185_111, q185_114, q185_115, q185_116, q185_118, q185_120, q185_123, q185_125, q185_128, q185_130, q185_132, k177 hb, em, c', pushR_I, pushR_L, pushR_R, pushR_V, InR_gg, InR_ga, InR_wr, InL_gl, InR_b, b01, b01_0, if_true, if_false, not_true_eq_false, not_false_eq_true, and_true, true_and, and_self, Sum.inl.injEq, one0, Bool.false_eq_true]
      rw [q185_135]
      have eb : bstS (lookA g l k dd) (100 * (k : Int) + (dd : Int)) B = (100 * (k : Int) + (dd : Int), lookA g l k dd) := by unfold bstS; rw [if_pos c]
      simp only [foldU] at hq
      rw [eb] at hq
      exact ih (dd + 1) (100 * (k : Int) + (dd : Int), lookA g l k dd) _ _ (by omega) hs3 ⟨⟨by show -1 ≤ 100 * (k : Int) + (dd : Int); omega, by show 100 * (k : Int) + (dd : Int) ≤ 1000; omega⟩, ab.1, by show lookA g l k dd ≤ 100; omega⟩ hq
    · have c' : B.2 ≤ lookA g l k dd := by omega
      simp (disch := first | with_reducible assumption | omega | exact ga_in _ _ _ | exact gg_in _ _ _ | (unfold InR; omega) | (unfold InL; omega) | (simp only [shC_71, shC_72, shC_73, shC_74, shC_75, shC_76, shC_77, shC_78, shC_79, shL_72, shL_73, shL_74, shL_75, shL_76, shL_77, shL_78, shL_79]; first | done | omega)) only [q185_89, q185_90, q185_91, q185_94, q185_96, q185_98, q185_100, q185_103, q185_105, q185_107, q185_108, q185_110, q185_111, q185_114, q185_115, q185_116, q185_118, q185_120, q185_123, q185_125, q185_128, q185_130, q185_132, k177 hb, em, c', pushR_I, pushR_L, pushR_R, pushR_V, InR_gg, InR_ga, InR_wr, InL_gl, InR_b, b01, b01_0, if_true, if_false, not_true_eq_false, not_false_eq_true, and_true, true_and, and_self, Sum.inl.injEq, one0, Bool.false_eq_true]
      rw [q185_135]
      have eb : bstS (lookA g l k dd) (100 * (k : Int) + (dd : Int)) B = B := by unfold bstS; rw [if_neg c]
      simp only [foldU] at hq
      rw [eb] at hq
      exact ih (dd + 1) B _ _ (by omega) hs3 ⟨⟨B1, B2⟩, B3, B4⟩ hq
theorem l185 (hr : RW σ 72 221 g) (hg : GOK g) {l : Int} (hl : 0 ≤ l ∧ l < g 13) (hn : ¬ setL g l = 0) : ∀ (n k : Nat) (B : Int × Int) (τ : SG) (w6 w7 : AV), k + n = 4 → ONE 79 σ τ → bstB B →
    (∀ τ', ONE 79 σ τ' → Q (.inl (foldU (lookB g l) n k B).1) τ') →
    Wp none (d + 19) 185 28 [.inr (.inr (.inl 71)), .inl l, .inl (setL g l), .inl B.1, .inl B.2, .inl (k : Int), w6, w7] [] τ Q := by
  have hb : 0 ≤ setL g l ∧ setL g l < 128 := set_b (by omega)
  intro n
  induction n with
  | zero =>
    intro k B τ w6 w7 hk hs hB hq
    have e2 : (4 : Int) ≤ (k : Int) := by omega
    obtain ⟨⟨B1, B2⟩, B3, B4⟩ := hB
    simp (disch := first | with_reducible assumption | omega | exact ga_in _ _ _ | exact gg_in _ _ _ | (unfold InR; omega) | (unfold InL; omega) | (simp only [shC_71, shC_72, shC_73, shC_74, shC_75, shC_76, shC_77, shC_78, shC_79, shL_72, shL_73, shL_74, shL_75, shL_76, shL_77, shL_78, shL_79]; first | done | omega)) only [q185_28, q185_30, q185_31, q185_34, q185_35, q185_144, q185_145, e2, pushR_I, pushR_L, pushR_R, pushR_V, InR_gg, InR_ga, InR_wr, InL_gl, InR_b, b01, b01_0, if_true, if_false, not_true_eq_false, not_false_eq_true, and_true, true_and, and_self, Sum.inl.injEq, one0, Bool.false_eq_true]
    exact hq τ hs
  | succ n ih =>
    intro k B τ w6 w7 hk hs hB hq
    have e2 : ¬ (4 : Int) ≤ (k : Int) := by omega
    simp (disch := first | with_reducible assumption | omega | exact ga_in _ _ _ | exact gg_in _ _ _ | (unfold InR; omega) | (unfold InL; omega) | (simp only [shC_71, shC_72, shC_73, shC_74, shC_75, shC_76, shC_77, shC_78, shC_79, shL_72, shL_73, shL_74, shL_75, shL_76, shL_77, shL_78, shL_79]; first | done | omega)) only [q185_28, q185_30, q185_31, q185_34, q185_35, q185_38, q185_39, e2, hn, pushR_I, pushR_L, pushR_R, pushR_V, InR_gg, InR_ga, InR_wr, InL_gl, InR_b, b01, b01_0, if_true, if_false, not_true_eq_false, not_false_eq_true, and_true, true_and, and_self, Sum.inl.injEq, one0, Bool.false_eq_true]
    refine l185i hr hg hl (k := k) (by omega) 21 0 B τ _ (by omega) hs hB (fun τ' w hB' hs' => ?_)
    simp (disch := first | with_reducible assumption | omega | exact ga_in _ _ _ | exact gg_in _ _ _ | (unfold InR; omega) | (unfold InL; omega) | (simp only [shC_71, shC_72, shC_73, shC_74, shC_75, shC_76, shC_77, shC_78, shC_79, shL_72, shL_73, shL_74, shL_75, shL_76, shL_77, shL_78, shL_79]; first | done | omega)) only [q185_138, pushR_I, pushR_L, pushR_R, pushR_V, InR_gg, InR_ga, InR_wr, InL_gl, InR_b, b01, b01_0, if_true, if_false, not_true_eq_false, not_false_eq_true, and_true, true_and, and_self, Sum.inl.injEq, one0, Bool.false_eq_true]
    rw [q185_141]
    exact ih (k + 1) _ τ' _ _ (by omega) hs' hB' hq
theorem o185 (h : MR σ S) (hS : SOK S) {l : Int} (hl : InR l) : CalE (d + 20) 185 [.inr (.inr (.inl 71)), .inl l] σ (OPM σ (fLook S l)) := by
  have hO := MOKn h.1 (by omega) hS.1
  have e13 : ga σ 72 13 = S 0 13 := h.1 13 (by omega) (by omega)
  have hb : 0 ≤ setL (S 0) l ∧ setL (S 0) l < 128 := set_b (by omega)
  refine Cal_ex (ls := [.inr (.inr (.inl 71)), .inl l, aU, aU, aU, aU, aU, aU]) rfl mna_185 mml_185 mhl_185 rfl rfl ?_
  unfold fLook
  by_cases h1 : 0 ≤ l ∧ l < ga σ 72 13
  · have h1' : 0 ≤ l ∧ l < S 0 13 := by omega
    rw [if_pos h1']
    simp (disch := first | with_reducible assumption | omega | exact ga_in _ _ _ | exact gg_in _ _ _ | (unfold InR; omega) | (unfold InL; omega) | (simp only [shC_71, shC_72, shC_73, shC_74, shC_75, shC_76, shC_77, shC_78, shC_79, shL_72, shL_73, shL_74, shL_75, shL_76, shL_77, shL_78, shL_79]; first | done | omega)) only [q185_0, q185_1, q185_2, q185_5, q185_8, q185_9, q185_12, q185_13, q185_14, q185_15, q185_18, q185_19, q185_20, q185_21, q185_23, q185_25, q185_26, shC_71, shC_72, shC_73, shC_74, shC_75, shC_76, shC_77, shC_78, shC_79, shL_72, shL_73, shL_74, shL_75, shL_76, shL_77, shL_78, shL_79, shR_71_0, shR_71_1, shR_71_2, shR_71_3, shR_71_4, shR_71_5, shR_71_8, shR_71_15, k122 hO.1, h1, k183 h.1 hS.1, pushR_I, pushR_L, pushR_R, pushR_V, InR_gg, InR_ga, InR_wr, InL_gl, InR_b, b01, b01_0, if_true, if_false, not_true_eq_false, not_false_eq_true, and_true, true_and, and_self, Sum.inl.injEq, one0, Bool.false_eq_true]
    by_cases hz : setL (S 0) l = 0
    · have e9 : ¬ (4 : Int) ≤ 0 := by omega
      rw [if_pos hz]
      simp (disch := first | with_reducible assumption | omega | exact ga_in _ _ _ | exact gg_in _ _ _ | (unfold InR; omega) | (unfold InL; omega) | (simp only [shC_71, shC_72, shC_73, shC_74, shC_75, shC_76, shC_77, shC_78, shC_79, shL_72, shL_73, shL_74, shL_75, shL_76, shL_77, shL_78, shL_79]; first | done | omega)) only [q185_28, q185_30, q185_31, q185_34, q185_35, q185_144, q185_145, e9, hz, pushR_I, pushR_L, pushR_R, pushR_V, InR_gg, InR_ga, InR_wr, InL_gl, InR_b, b01, b01_0, if_true, if_false, not_true_eq_false, not_false_eq_true, and_true, true_and, and_self, Sum.inl.injEq, one0, Bool.false_eq_true]
      exact MO_id h
    · rw [if_neg hz]
      exact l185 (d := d) h.1 hS.1 h1' hz 4 0 (-1, 99) σ _ _ (by omega) (ONE_refl _ _) ⟨⟨by show (-1 : Int) ≤ -1; omega, by show (-1 : Int) ≤ 1000; omega⟩, by show (0 : Int) ≤ 99; omega, by show (99 : Int) ≤ 100; omega⟩ (fun τ' hs => MO_79 h hs)
  · rw [if_neg (fun q => h1 (by unfold hasL at q; omega))]
    simp (disch := first | with_reducible assumption | omega | exact ga_in _ _ _ | exact gg_in _ _ _ | (unfold InR; omega) | (unfold InL; omega) | (simp only [shC_71, shC_72, shC_73, shC_74, shC_75, shC_76, shC_77, shC_78, shC_79, shL_72, shL_73, shL_74, shL_75, shL_76, shL_77, shL_78, shL_79]; first | done | omega)) only [q185_0, q185_1, q185_2, q185_5, q185_8, q185_9, q185_12, q185_13, q185_14, q185_15, q185_18, q185_19, q185_20, q185_21, q185_23, q185_25, q185_26, shC_71, shC_72, shC_73, shC_74, shC_75, shC_76, shC_77, shC_78, shC_79, shL_72, shL_73, shL_74, shL_75, shL_76, shL_77, shL_78, shL_79, shR_71_0, shR_71_1, shR_71_2, shR_71_3, shR_71_4, shR_71_5, shR_71_8, shR_71_15, k122 hO.1, h1, k118, pushR_I, pushR_L, pushR_R, pushR_V, InR_gg, InR_ga, InR_wr, InL_gl, InR_b, b01, b01_0, if_true, if_false, not_true_eq_false, not_false_eq_true, and_true, true_and, and_self, Sum.inl.injEq, one0, Bool.false_eq_true]
    exact MO_bad h
def akM (g : Int → Int) (o x : Int) (kd : Nat) : Int := tkI (kd : Int) x (g (1 + o))
theorem l188k (hr : RW σ 72 221 g) (hg : GOK g) {o x : Int} (ho : 0 ≤ o ∧ o < g 28) (hx : 0 ≤ x ∧ x ≤ 60) {v2 v3 v4 : AV} : ∀ (n i : Nat), i + n = 6 →
    Wp none (d + 19) 188 42 [.inr (.inr (.inl 71)), .inl o, v2, v3, v4, .inl x, .inl (i : Int)] [] (mR σ 79 0 i (akM g o x)) Q = Wp none (d + 19) 188 77 [.inr (.inr (.inl 71)), .inl o, v2, v3, v4, .inl x, .inl 6] [] (mR σ 79 0 6 (akM g o x)) Q := by
  have c221 : ((221 : Nat) : Int) = 221 := rfl
  have c7 : ((7 : Nat) : Int) = 7 := rfl
  have g28 := hg.2.1
  obtain ⟨y4, y5⟩ := hg.2.2.2.2.1 o ho.1 ho.2
  intro n
  induction n with
  | zero =>
    intro i hi
    have e : i = 6 := by omega
    subst e
    have e1 : ((6 : Nat) : Int) = 6 := rfl
    simp (disch := first | with_reducible assumption | omega | exact ga_in _ _ _ | exact gg_in _ _ _ | (unfold InR; omega) | (unfold InL; omega) | (simp only [shC_71, shC_72, shC_73, shC_74, shC_75, shC_76, shC_77, shC_78, shC_79, shL_72, shL_73, shL_74, shL_75, shL_76, shL_77, shL_78, shL_79]; first | done | omega)) only [q188_42, q188_44, q188_46, e1, Int.le_refl, pushR_I, pushR_L, pushR_R, pushR_V, InR_gg, InR_ga, InR_wr, InL_gl, InR_b, b01, b01_0, if_true, if_false, not_true_eq_false, not_false_eq_true, and_true, true_and, and_self, Sum.inl.injEq, one0, Bool.false_eq_true]
  | succ n ih =>
    intro i hi
    have e : ¬ (6 : Int) ≤ (i : Int) := by omega
    have e3 : ga (mR σ 79 0 i (akM g o x)) 72 (1 + o) = g (1 + o) := by rw [ga_mR_ne _ (by omega)]; exact hr _ (by omega) (by omega)
    simp (disch := first | with_reducible assumption | omega | exact ga_in _ _ _ | exact gg_in _ _ _ | (unfold InR; omega) | (unfold InL; omega) | (simp only [shC_71, shC_72, shC_73, shC_74, shC_75, shC_76, shC_77, shC_78, shC_79, shL_72, shL_73, shL_74, shL_75, shL_76, shL_77, shL_78, shL_79]; first | done | omega)) only [q188_42, q188_44, q188_46, q188_49, q188_50, q188_53, q188_55, q188_57, q188_59, q188_60, q188_63, q188_64, q188_65, q188_66, q188_67, q188_70, q188_71, shC_71, shC_72, shC_73, shC_74, shC_75, shC_76, shC_77, shC_78, shC_79, shL_72, shL_73, shL_74, shL_75, shL_76, shL_77, shL_78, shL_79, shR_71_0, shR_71_1, shR_71_2, shR_71_3, shR_71_4, shR_71_5, shR_71_8, shR_71_15, c221, c7, e, e3, k128, pushR_I, pushR_L, pushR_R, pushR_V, InR_gg, InR_ga, InR_wr, InL_gl, InR_b, b01, b01_0, if_true, if_false, not_true_eq_false, not_false_eq_true, and_true, true_and, and_self, Sum.inl.injEq, one0, Bool.false_eq_true]
    rw [q188_74, mR_step (b := 0) (i := i) (g := akM g o x) (v := tkI (i : Int) x (g (1 + o))) σ (by omega) rfl]
    exact ih (i + 1) (by omega)
theorem ask_M (hg : GOK g) {o : Int} (ho : 0 ≤ o ∧ o < g 28) {x : Nat} (hx : x ≤ 60) : mostL (cmpF (hasb (setO g o)) (fun i => ga (mR σ 79 0 6 (akM g o (x : Int))) 79 (i : Int)) 0 7) = askA g o x := by
  obtain ⟨y4, y5⟩ := hg.2.2.2.2.1 o ho.1 ho.2
  refine (lay_most (by omega) (fun j hj => ?_) (fun j hj => hasb_hi hj)).trans rfl
  have bt := tkI_b (kind := (j : Int)) (x := (x : Int)) (by omega) y5
  exact ⟨by unfold akM; omega, by unfold akM; omega⟩
theorem l188 (hr : RW σ 72 221 g) (hg : GOK g) {o : Int} (ho : 0 ≤ o ∧ o < g 28) (hn : ¬ setO g o = 0) : ∀ (n x : Nat) (B : Int × Int) (τ : SG) (w6 : AV), x + n = 61 → ONE 79 σ τ → bstB B →
    (∀ τ', ONE 79 σ τ' → Q (.inl (foldU (askB g o) n x B).1) τ') →
    Wp none (d + 19) 188 28 [.inr (.inr (.inl 71)), .inl o, .inl (setO g o), .inl B.1, .inl B.2, .inl (x : Int), w6] [] τ Q := by
  have hb : 0 ≤ setO g o ∧ setO g o < 128 := set_b (by omega)
  intro n
  induction n with
  | zero =>
    intro x B τ w6 hx hs hB hq
    have e2 : (60 : Int) < (x : Int) := by omega
    obtain ⟨⟨B1, B2⟩, B3, B4⟩ := hB
    simp (disch := first | with_reducible assumption | omega | exact ga_in _ _ _ | exact gg_in _ _ _ | (unfold InR; omega) | (unfold InL; omega) | (simp only [shC_71, shC_72, shC_73, shC_74, shC_75, shC_76, shC_77, shC_78, shC_79, shL_72, shL_73, shL_74, shL_75, shL_76, shL_77, shL_78, shL_79]; first | done | omega)) only [q188_28, q188_30, q188_32, q188_35, q188_36, q188_120, q188_121, e2, pushR_I, pushR_L, pushR_R, pushR_V, InR_gg, InR_ga, InR_wr, InL_gl, InR_b, b01, b01_0, if_true, if_false, not_true_eq_false, not_false_eq_true, and_true, true_and, and_self, Sum.inl.injEq, one0, Bool.false_eq_true]
    exact hq τ hs
  | succ n ih =>
    intro x B τ w6 hx hs hB hq
    have hrt := RW_other hr hs (by omega)
    have e2 : ¬ (60 : Int) < (x : Int) := by omega
    have ab := askA_b (g := g) (o := o) x
    have em := ask_M (σ := τ) hg ho (x := x) (by omega)
    have hs3 : ONE 79 σ (mR τ 79 0 6 (akM g o (x : Int))) := ONE_mR hs
    obtain ⟨⟨B1, B2⟩, B3, B4⟩ := hB
    simp (disch := first | with_reducible assumption | omega | exact ga_in _ _ _ | exact gg_in _ _ _ | (unfold InR; omega) | (unfold InL; omega) | (simp only [shC_71, shC_72, shC_73, shC_74, shC_75, shC_76, shC_77, shC_78, shC_79, shL_72, shL_73, shL_74, shL_75, shL_76, shL_77, shL_78, shL_79]; first | done | omega)) only [q188_28, q188_30, q188_32, q188_35, q188_36, q188_39, q188_40, e2, hn, pushR_I, pushR_L, pushR_R, pushR_V, InR_gg, InR_ga, InR_wr, InL_gl, InR_b, b01, b01_0, if_true, if_false, not_true_eq_false, not_false_eq_true, and_true, true_and, and_self, Sum.inl.injEq, one0, Bool.false_eq_true]
    have hl2 := l188k (d := d) (σ := τ) (Q := Q) (v2 := .inl (setO g o)) (v3 := .inl B.1) (v4 := .inl B.2) hrt hg ho (x := (x : Int)) (by omega) 6 0 (by omega)
    rw [mR_0] at hl2
    refine hl2.mpr ?_
    by_cases c : askA g o x < B.2
    · have c' : ¬ B.2 ≤ askA g o x := by omega
      simp (disch := first | with_reducible assumption | omega | exact ga_in _ _ _ | exact gg_in _ _ _ | (unfold InR; omega) | (unfold InL; omega) | (simp only [shC_71, shC_72, shC_73, shC_74, shC_75, shC_76, shC_77, shC_78, shC_79, shL_72, shL_73, shL_74, shL_75, shL_76, shL_77, shL_78, shL_79]; first | done | omega)) only [q188_77, q188_78, q188_79, q188_82, q188_84, q188_86, q188_88, q188_91, q188_93, q188_96, q188_97, q188_98, q188_100, q188_102, q188_105, q188_107, q188_110, q188_112, q188_114, k177 hb, em, c', pushR_I, pushR_L, pushR_R, pushR_V, InR_gg, InR_ga, InR_wr, InL_gl, InR_b, b01, b01_0, if_true, if_false, not_true_eq_false, not_false_eq_true, and_true, true_and, and_self, Sum.inl.injEq, one0, Bool.false_eq_true]
      rw [q188_117]
      have eb : askB g o x B = ((x : Int), askA g o x) := by unfold askB bstS; rw [if_pos c]
      simp only [foldU] at hq
      rw [eb] at hq
      exact ih (x + 1) ((x : Int), askA g o x) _ _ (by omega) hs3 ⟨⟨by show -1 ≤ (x : Int); omega, by show (x : Int) ≤ 1000; omega⟩, ab.1, by show askA g o x ≤ 100; omega⟩ hq
    · have c' : B.2 ≤ askA g o x := by omega
      simp (disch := first | with_reducible assumption | omega | exact ga_in _ _ _ | exact gg_in _ _ _ | (unfold InR; omega) | (unfold InL; omega) | (simp only [shC_71, shC_72, shC_73, shC_74, shC_75, shC_76, shC_77, shC_78, shC_79, shL_72, shL_73, shL_74, shL_75, shL_76, shL_77, shL_78, shL_79]; first | done | omega)) only [q188_77, q188_78, q188_79, q188_82, q188_84, q188_86, q188_88, q188_91, q188_93, q188_96, q188_97, q188_98, q188_100, q188_102, q188_105, q188_107, q188_110, q188_112, q188_114, k177 hb, em, c', pushR_I, pushR_L, pushR_R, pushR_V, InR_gg, InR_ga, InR_wr, InL_gl, InR_b, b01, b01_0, if_true, if_false, not_true_eq_false, not_false_eq_true, and_true, true_and, and_self, Sum.inl.injEq, one0, Bool.false_eq_true]
      rw [q188_117]
      have eb : askB g o x B = B := by unfold askB bstS; rw [if_neg c]
      simp only [foldU] at hq
      rw [eb] at hq
      exact ih (x + 1) B _ _ (by omega) hs3 ⟨⟨B1, B2⟩, B3, B4⟩ hq
theorem o188 (h : MR σ S) (hS : SOK S) {o : Int} (ho : InR o) : CalE (d + 20) 188 [.inr (.inr (.inl 71)), .inl o] σ (OPM σ (fAsk S o)) := by
  have hO := MOKn h.1 (by omega) hS.1
  have e28 : ga σ 72 28 = S 0 28 := h.1 28 (by omega) (by omega)
  have hb : 0 ≤ setO (S 0) o ∧ setO (S 0) o < 128 := set_b (by omega)
  refine Cal_ex (ls := [.inr (.inr (.inl 71)), .inl o, aU, aU, aU, aU, aU]) rfl mna_188 mml_188 mhl_188 rfl rfl ?_
  unfold fAsk
  by_cases h1 : 0 ≤ o ∧ o < ga σ 72 28
  · have h1' : 0 ≤ o ∧ o < S 0 28 := by omega
    rw [if_pos h1']
    simp (disch := first | with_reducible assumption | omega | exact ga_in _ _ _ | exact gg_in _ _ _ | (unfold InR; omega) | (unfold InL; omega) | (simp only [shC_71, shC_72, shC_73, shC_74, shC_75, shC_76, shC_77, shC_78, shC_79, shL_72, shL_73, shL_74, shL_75, shL_76, shL_77, shL_78, shL_79]; first | done | omega)) only [q188_0, q188_1, q188_2, q188_5, q188_8, q188_9, q188_12, q188_13, q188_14, q188_15, q188_18, q188_19, q188_20, q188_21, q188_23, q188_25, q188_26, shC_71, shC_72, shC_73, shC_74, shC_75, shC_76, shC_77, shC_78, shC_79, shL_72, shL_73, shL_74, shL_75, shL_76, shL_77, shL_78, shL_79, shR_71_0, shR_71_1, shR_71_2, shR_71_3, shR_71_4, shR_71_5, shR_71_8, shR_71_15, k123 hO.2.1, h1, k186 h.1 hS.1, pushR_I, pushR_L, pushR_R, pushR_V, InR_gg, InR_ga, InR_wr, InL_gl, InR_b, b01, b01_0, if_true, if_false, not_true_eq_false, not_false_eq_true, and_true, true_and, and_self, Sum.inl.injEq, one0, Bool.false_eq_true]
    by_cases hz : setO (S 0) o = 0
    · have e9 : ¬ (60 : Int) < 0 := by omega
      rw [if_pos hz]
      simp (disch := first | with_reducible assumption | omega | exact ga_in _ _ _ | exact gg_in _ _ _ | (unfold InR; omega) | (unfold InL; omega) | (simp only [shC_71, shC_72, shC_73, shC_74, shC_75, shC_76, shC_77, shC_78, shC_79, shL_72, shL_73, shL_74, shL_75, shL_76, shL_77, shL_78, shL_79]; first | done | omega)) only [q188_28, q188_30, q188_32, q188_35, q188_36, q188_120, q188_121, e9, hz, pushR_I, pushR_L, pushR_R, pushR_V, InR_gg, InR_ga, InR_wr, InL_gl, InR_b, b01, b01_0, if_true, if_false, not_true_eq_false, not_false_eq_true, and_true, true_and, and_self, Sum.inl.injEq, one0, Bool.false_eq_true]
      exact MO_id h
    · rw [if_neg hz]
      exact l188 (d := d) h.1 hS.1 h1' hz 61 0 (-1, 99) σ _ (by omega) (ONE_refl _ _) ⟨⟨by show (-1 : Int) ≤ -1; omega, by show (-1 : Int) ≤ 1000; omega⟩, by show (0 : Int) ≤ 99; omega, by show (99 : Int) ≤ 100; omega⟩ (fun τ' hs => MO_79 h hs)
  · rw [if_neg (fun q => h1 (by unfold hasO at q; omega))]
    simp (disch := first | with_reducible assumption | omega | exact ga_in _ _ _ | exact gg_in _ _ _ | (unfold InR; omega) | (unfold InL; omega) | (simp only [shC_71, shC_72, shC_73, shC_74, shC_75, shC_76, shC_77, shC_78, shC_79, shL_72, shL_73, shL_74, shL_75, shL_76, shL_77, shL_78, shL_79]; first | done | omega)) only [q188_0, q188_1, q188_2, q188_5, q188_8, q188_9, q188_12, q188_13, q188_14, q188_15, q188_18, q188_19, q188_20, q188_21, q188_23, q188_25, q188_26, shC_71, shC_72, shC_73, shC_74, shC_75, shC_76, shC_77, shC_78, shC_79, shL_72, shL_73, shL_74, shL_75, shL_76, shL_77, shL_78, shL_79, shR_71_0, shR_71_1, shR_71_2, shR_71_3, shR_71_4, shR_71_5, shR_71_8, shR_71_15, k123 hO.2.1, h1, k118, pushR_I, pushR_L, pushR_R, pushR_V, InR_gg, InR_ga, InR_wr, InL_gl, InR_b, b01, b01_0, if_true, if_false, not_true_eq_false, not_false_eq_true, and_true, true_and, and_self, Sum.inl.injEq, one0, Bool.false_eq_true]
    exact MO_bad h
end MOPS5
