-- the class's questions that ask for the best
section OPS4
variable {d : Nat} {σ : SG} {S : Nat → Int → Int} {Q : AV → SG → Prop}
theorem cntL_le (v : Int) : ∀ (L : List Int), cntL v L ≤ (L.length : Int) := by
  intro L
  induction L with
  | nil => exact Int.le_refl 0
  | cons x t ih =>
    simp only [cntL, List.length_cons]
    split <;> omega
theorem mxL_b {f : Int → Int} {B : Int} : ∀ (L : List Int) (a : Int), a ≤ B → (∀ x, f x ≤ B) → a ≤ mxL f L a ∧ mxL f L a ≤ B := by
  intro L
  induction L with
  | nil => intro a h _; exact ⟨Int.le_refl a, h⟩
  | cons x t ih =>
    intro a h hf
    have h1 := hf x
    have := ih (if a < f x then f x else a) (by split <;> omega) hf
    have k : a ≤ (if a < f x then f x else a) := by split <;> omega
    exact ⟨Int.le_trans k this.1, this.2⟩
theorem mostL_b {L : List Int} {n : Nat} (h : L.length ≤ n) : 0 ≤ mostL L ∧ mostL L ≤ (n : Int) :=
  mxL_b L 0 (by omega) (fun x => by have := cntL_le x L; omega)
theorem tell_G {τ : SG} {g : Int → Int} (hT : TRc τ 1 g) (hG : GOK g) {o : Int} (ho : 0 ≤ o ∧ o < g 28) (k dd : Nat) : mostL (cmpF (hasb (setW g)) (tak107 τ o (k : Int) (dd : Int)) 0 (gg τ 1 0).toNat) = tellA g o dd k := by
  obtain ⟨⟨e0, e1, e2⟩, hl, ho1, -⟩ := hT
  obtain ⟨b1, b2⟩ := ho1 o ho.1 ho.2
  have g1 := hG.1
  unfold tellA
  rw [e0]
  congr 1
  refine cmpF_congr _ _ (fun _ _ _ => rfl) (fun l _ hl2 _ => ?_)
  obtain ⟨a1, a2, a3⟩ := hl (l : Int) (by omega) (by omega)
  unfold tak107
  rw [show ga τ 5 o = g (29 + o) from b1, show ga τ 6 o = g (1 + o) from b2, show ga τ 2 (l : Int) = g (14 + (l : Int)) from a1, show ga τ 3 (l : Int) = g (21 + (l : Int)) from a2]
theorem tellA_b {g : Int → Int} (hG : GOK g) {o : Int} (k dd : Nat) : 0 ≤ tellA g o dd k ∧ tellA g o dd k ≤ 7 := mostL_b (n := 7) (by
  have h1 := cmpF_len (p := hasb (setW g)) (f := fun l => tkI (g (29 + o)) (ltI (g (14 + (l : Int))) (g (21 + (l : Int))) (k : Int) (dd : Int)) (g (1 + o))) (g 13).toNat 0
  have := hG.1
  omega)
theorem lookA_b {g : Int → Int} {l : Int} (k dd : Nat) : 0 ≤ lookA g l k dd ∧ lookA g l k dd ≤ 6 := mostL_b (n := 6) (cmpF_len 6 0)
theorem askA_b {g : Int → Int} {o : Int} (x : Nat) : 0 ≤ askA g o x ∧ askA g o x ≤ 6 := mostL_b (n := 6) (cmpF_len 6 0)
theorem TRc_70 {τ : SG} {g : Int → Int} (hT : TRc σ 1 g) (hs : SAM S70 σ τ) : TRc τ 1 g := TRc_same hT (fun a b h1 h2 => hs.1 a b (fun q => by unfold S70 at q; omega))
def bstB (B : Int × Int) : Prop := (-1 ≤ B.1 ∧ B.1 ≤ 1000) ∧ 0 ≤ B.2 ∧ B.2 ≤ 100
theorem l65i {g : Int → Int} (hT : TRc σ 1 g) (hG : GOK g) {o : Int} (ho : 0 ≤ o ∧ o < g 28) {dd : Nat} (hd : dd ≤ 9) : ∀ (n k : Nat) (B : Int × Int) (τ : SG) (w7 : AV), k + n = 3 → SAM S70 σ τ → bstB B →
    (∀ τ' w, bstB (foldU (fun k B => bstS (tellA g o dd k) (10 * (dd : Int) + (k : Int)) B) n k B) → SAM S70 σ τ' → Wp none (d + 19) 65 88 [.inr (.inr (.inl 0)), .inl o, .inl (setW g), .inl (foldU (fun k B => bstS (tellA g o dd k) (10 * (dd : Int) + (k : Int)) B) n k B).1, .inl (foldU (fun k B => bstS (tellA g o dd k) (10 * (dd : Int) + (k : Int)) B) n k B).2, .inl (dd : Int), .inl 3, w] [] τ' Q) →
    Wp none (d + 19) 65 44 [.inr (.inr (.inl 0)), .inl o, .inl (setW g), .inl B.1, .inl B.2, .inl (dd : Int), .inl (k : Int), w7] [] τ Q := by
  have g1 := hG.1
  have hb : 0 ≤ setW g ∧ setW g < 128 := set_b (by omega)
  intro n
  induction n with
  | zero =>
    intro k B τ w7 hk hs hB hq
    have e : k = 3 := by omega
    subst e
    have e1 : ((3 : Nat) : Int) = 3 := rfl
    have e2 : (2 : Int) < 3 := by omega
    simp (disch := first | with_reducible assumption | omega | exact ga_in _ _ _ | exact gg_in _ _ _ | (unfold InR; omega) | (unfold InL; omega) | (simp only [shC_0, shC_1, shC_2, shC_3, shC_4, shC_5, shC_6, shC_7, shC_8, shC_9, shC_10, shC_11, shC_12, shC_13, shC_14, shC_29, shC_58, shC_59, shC_60, shC_61, shC_62, shC_63, shC_64, shC_65, shC_66, shC_67, shC_68, shC_69, shC_70, shL_2, shL_3, shL_4, shL_5, shL_6, shL_8, shL_10, shL_12, shL_14, shL_29, shL_58, shL_60, shL_62, shL_63, shL_65, shL_66, shL_67, shL_68, shL_69, shL_70]; first | done | omega)) only [q65_44, q65_46, q65_47, e1, e2, pushR_I, pushR_L, pushR_R, pushR_V, InR_gg, InR_ga, InR_wr, InL_gl, InR_b, b01, b01_0, if_true, if_false, not_true_eq_false, not_false_eq_true, and_true, true_and, and_self, Sum.inl.injEq, one0, Bool.false_eq_true]
    exact hq τ w7 hB hs
  | succ n ih =>
    intro k B τ w7 hk hs hB hq
    have hT' := TRc_70 hT hs
    have e28 : gg τ 1 1 = g 28 := hT'.1.2.1
    have e2 : ¬ (2 : Int) < (k : Int) := by omega
    have ab := tellA_b hG (o := o) k dd
    obtain ⟨⟨B1, B2⟩, B3, B4⟩ := hB
    simp (disch := first | with_reducible assumption | omega | exact ga_in _ _ _ | exact gg_in _ _ _ | (unfold InR; omega) | (unfold InL; omega) | (simp only [shC_0, shC_1, shC_2, shC_3, shC_4, shC_5, shC_6, shC_7, shC_8, shC_9, shC_10, shC_11, shC_12, shC_13, shC_14, shC_29, shC_58, shC_59, shC_60, shC_61, shC_62, shC_63, shC_64, shC_65, shC_66, shC_67, shC_68, shC_69, shC_70, shL_2, shL_3, shL_4, shL_5, shL_6, shL_8, shL_10, shL_12, shL_14, shL_29, shL_58, shL_60, shL_62, shL_63, shL_65, shL_66, shL_67, shL_68, shL_69, shL_70]; first | done | omega)) only [q65_44, q65_46, q65_47, q65_50, q65_51, q65_52, q65_53, q65_55, q65_57, e2, pushR_I, pushR_L, pushR_R, pushR_V, InR_gg, InR_ga, InR_wr, InL_gl, InR_b, b01, b01_0, if_true, if_false, not_true_eq_false, not_false_eq_true, and_true, true_and, and_self, Sum.inl.injEq, one0, Bool.false_eq_true]
    refine CalK_E (m107 (d := d + 15) (σ := τ) (o := o) (bits := setW g) (k := (k : Int)) (dd := (dd : Int)) (TOK_of hT' hG) (by omega) (by omega) (by omega) (by omega)) (fun r υ hP => ?_)
    obtain ⟨rfl, hs2⟩ := hP
    rw [tell_G hT' hG ho k dd]
    have hs3 := SAM_trans hs hs2
    by_cases c : tellA g o dd k < B.2
    · have c' : ¬ B.2 ≤ tellA g o dd k := by omega
      simp (disch := first | with_reducible assumption | omega | exact ga_in _ _ _ | exact gg_in _ _ _ | (unfold InR; omega) | (unfold InL; omega) | (simp only [shC_0, shC_1, shC_2, shC_3, shC_4, shC_5, shC_6, shC_7, shC_8, shC_9, shC_10, shC_11, shC_12, shC_13, shC_14, shC_29, shC_58, shC_59, shC_60, shC_61, shC_62, shC_63, shC_64, shC_65, shC_66, shC_67, shC_68, shC_69, shC_70, shL_2, shL_3, shL_4, shL_5, shL_6, shL_8, shL_10, shL_12, shL_14, shL_29, shL_58, shL_60, shL_62, shL_63, shL_65, shL_66, shL_67, shL_68, shL_69, shL_70]; first | done | omega)) only [q65_60, q65_62, q65_64, q65_66, q65_69, q65_71, q65_73, q65_75, q65_77, q65_78, q65_80, q65_81, q65_82, c', pushR_I, pushR_L, pushR_R, pushR_V, InR_gg, InR_ga, InR_wr, InL_gl, InR_b, b01, b01_0, if_true, if_false, not_true_eq_false, not_false_eq_true, and_true, true_and, and_self, Sum.inl.injEq, one0, Bool.false_eq_true]
      rw [q65_85]
      have eb : bstS (tellA g o dd k) (10 * (dd : Int) + (k : Int)) B = (10 * (dd : Int) + (k : Int), tellA g o dd k) := by unfold bstS; rw [if_pos c]
      simp only [foldU] at hq
      rw [eb] at hq
      exact ih (k + 1) (10 * (dd : Int) + (k : Int), tellA g o dd k) υ _ (by omega) hs3 ⟨⟨by show -1 ≤ 10 * (dd : Int) + (k : Int); omega, by show 10 * (dd : Int) + (k : Int) ≤ 1000; omega⟩, ab.1, by show tellA g o dd k ≤ 100; omega⟩ hq
    · have c' : B.2 ≤ tellA g o dd k := by omega
      simp (disch := first | with_reducible assumption | omega | exact ga_in _ _ _ | exact gg_in _ _ _ | (unfold InR; omega) | (unfold InL; omega) | (simp only [shC_0, shC_1, shC_2, shC_3, shC_4, shC_5, shC_6, shC_7, shC_8, shC_9, shC_10, shC_11, shC_12, shC_13, shC_14, shC_29, shC_58, shC_59, shC_60, shC_61, shC_62, shC_63, shC_64, shC_65, shC_66, shC_67, shC_68, shC_69, shC_70, shL_2, shL_3, shL_4, shL_5, shL_6, shL_8, shL_10, shL_12, shL_14, shL_29, shL_58, shL_60, shL_62, shL_63, shL_65, shL_66, shL_67, shL_68, shL_69, shL_70]; first | done | omega)) only [q65_60, q65_62, q65_64, q65_66, q65_69, q65_71, q65_73, q65_75, q65_77, q65_78, q65_80, q65_81, q65_82, c', pushR_I, pushR_L, pushR_R, pushR_V, InR_gg, InR_ga, InR_wr, InL_gl, InR_b, b01, b01_0, if_true, if_false, not_true_eq_false, not_false_eq_true, and_true, true_and, and_self, Sum.inl.injEq, one0, Bool.false_eq_true]
      rw [q65_85]
      have eb : bstS (tellA g o dd k) (10 * (dd : Int) + (k : Int)) B = B := by unfold bstS; rw [if_neg c]
      simp only [foldU] at hq
      rw [eb] at hq
      exact ih (k + 1) B υ _ (by omega) hs3 ⟨⟨B1, B2⟩, B3, B4⟩ hq
theorem l65 {g : Int → Int} (hT : TRc σ 1 g) (hG : GOK g) {o : Int} (ho : 0 ≤ o ∧ o < g 28) (hn : ¬ setW g = 0) : ∀ (n dd : Nat) (B : Int × Int) (τ : SG) (w6 w7 : AV), dd + n = 10 → SAM S70 σ τ → bstB B →
    (∀ τ', SAM S70 σ τ' → Q (.inl (foldU (tellB g o) n dd B).1) τ') →
    Wp none (d + 19) 65 30 [.inr (.inr (.inl 0)), .inl o, .inl (setW g), .inl B.1, .inl B.2, .inl (dd : Int), w6, w7] [] τ Q := by
  have g1 := hG.1
  have hb : 0 ≤ setW g ∧ setW g < 128 := set_b (by omega)
  intro n
  induction n with
  | zero =>
    intro dd B τ w6 w7 hd hs hB hq
    have e2 : (9 : Int) < (dd : Int) := by omega
    obtain ⟨⟨B1, B2⟩, B3, B4⟩ := hB
    simp (disch := first | with_reducible assumption | omega | exact ga_in _ _ _ | exact gg_in _ _ _ | (unfold InR; omega) | (unfold InL; omega) | (simp only [shC_0, shC_1, shC_2, shC_3, shC_4, shC_5, shC_6, shC_7, shC_8, shC_9, shC_10, shC_11, shC_12, shC_13, shC_14, shC_29, shC_58, shC_59, shC_60, shC_61, shC_62, shC_63, shC_64, shC_65, shC_66, shC_67, shC_68, shC_69, shC_70, shL_2, shL_3, shL_4, shL_5, shL_6, shL_8, shL_10, shL_12, shL_14, shL_29, shL_58, shL_60, shL_62, shL_63, shL_65, shL_66, shL_67, shL_68, shL_69, shL_70]; first | done | omega)) only [q65_30, q65_32, q65_34, q65_37, q65_38, q65_94, q65_95, e2, pushR_I, pushR_L, pushR_R, pushR_V, InR_gg, InR_ga, InR_wr, InL_gl, InR_b, b01, b01_0, if_true, if_false, not_true_eq_false, not_false_eq_true, and_true, true_and, and_self, Sum.inl.injEq, one0, Bool.false_eq_true]
    exact hq τ hs
  | succ n ih =>
    intro dd B τ w6 w7 hd hs hB hq
    have e2 : ¬ (9 : Int) < (dd : Int) := by omega
    simp (disch := first | with_reducible assumption | omega | exact ga_in _ _ _ | exact gg_in _ _ _ | (unfold InR; omega) | (unfold InL; omega) | (simp only [shC_0, shC_1, shC_2, shC_3, shC_4, shC_5, shC_6, shC_7, shC_8, shC_9, shC_10, shC_11, shC_12, shC_13, shC_14, shC_29, shC_58, shC_59, shC_60, shC_61, shC_62, shC_63, shC_64, shC_65, shC_66, shC_67, shC_68, shC_69, shC_70, shL_2, shL_3, shL_4, shL_5, shL_6, shL_8, shL_10, shL_12, shL_14, shL_29, shL_58, shL_60, shL_62, shL_63, shL_65, shL_66, shL_67, shL_68, shL_69, shL_70]; first | done | omega)) only [q65_30, q65_32, q65_34, q65_37, q65_38, q65_41, q65_42, e2, hn, pushR_I, pushR_L, pushR_R, pushR_V, InR_gg, InR_ga, InR_wr, InL_gl, InR_b, b01, b01_0, if_true, if_false, not_true_eq_false, not_false_eq_true, and_true, true_and, and_self, Sum.inl.injEq, one0, Bool.false_eq_true]
    refine l65i hT hG ho (dd := dd) (by omega) 3 0 B τ _ (by omega) hs hB (fun τ' w hB' hs' => ?_)
    simp (disch := first | with_reducible assumption | omega | exact ga_in _ _ _ | exact gg_in _ _ _ | (unfold InR; omega) | (unfold InL; omega) | (simp only [shC_0, shC_1, shC_2, shC_3, shC_4, shC_5, shC_6, shC_7, shC_8, shC_9, shC_10, shC_11, shC_12, shC_13, shC_14, shC_29, shC_58, shC_59, shC_60, shC_61, shC_62, shC_63, shC_64, shC_65, shC_66, shC_67, shC_68, shC_69, shC_70, shL_2, shL_3, shL_4, shL_5, shL_6, shL_8, shL_10, shL_12, shL_14, shL_29, shL_58, shL_60, shL_62, shL_63, shL_65, shL_66, shL_67, shL_68, shL_69, shL_70]; first | done | omega)) only [q65_88, pushR_I, pushR_L, pushR_R, pushR_V, InR_gg, InR_ga, InR_wr, InL_gl, InR_b, b01, b01_0, if_true, if_false, not_true_eq_false, not_false_eq_true, and_true, true_and, and_self, Sum.inl.injEq, one0, Bool.false_eq_true]
    rw [q65_91]
    exact ih (dd + 1) _ τ' _ _ (by omega) hs' hB' hq
theorem bst_start {a v c c2 : Int} (h1 : a < c) (h2 : a < c2) : bstS a v (-1, c) = bstS a v (-1, c2) := by
  unfold bstS
  rw [if_pos h1, if_pos h2]
theorem foldU_start {β : Type} {f : Nat → β → β} {n x : Nat} {b b2 : β} (h : f x b = f x b2) : foldU f (n + 1) x b = foldU f (n + 1) x b2 := by
  simp only [foldU]
  rw [h]
theorem tell_start {g : Int → Int} (hG : GOK g) {o : Int} : foldU (tellB g o) 10 0 (-1, 8) = foldU (tellB g o) 10 0 (-1, 99) := by
  have ab := tellA_b hG (o := o) 0 0
  exact foldU_start (n := 9) (foldU_start (n := 2) (bst_start (a := tellA g o 0 0) (by omega) (by omega)))
theorem o65 (h : CR σ S) (hS : SOK S) {o : Int} (ho : InR o) : CalE (d + 20) 65 [.inr (.inr (.inl 0)), .inl o] σ (OPC σ (fTell S o)) := by
  obtain ⟨hO, hE, hN, hM, e0, e1, e2, e13⟩ := CR_T h hS
  have g1 := hS.1.1
  have hb : 0 ≤ setW (S 0) ∧ setW (S 0) < 128 := set_b (by omega)
  have hp : ∀ a b, S70 a b → 61 ≤ a ∧ a ≤ 70 := fun a b q => by unfold S70 at q; omega
  refine Cal_ex (ls := [.inr (.inr (.inl 0)), .inl o, aU, aU, aU, aU, aU, aU]) rfl mna_65 mml_65 mhl_65 rfl rfl ?_
  unfold fTell
  by_cases h1 : 0 ≤ o ∧ o < gg σ 1 1
  · have h1' : 0 ≤ o ∧ o < S 0 28 := by omega
    rw [if_pos h1']
    simp (disch := first | with_reducible assumption | omega | exact ga_in _ _ _ | exact gg_in _ _ _ | (unfold InR; omega) | (unfold InL; omega) | (simp only [shC_0, shC_1, shC_2, shC_3, shC_4, shC_5, shC_6, shC_7, shC_8, shC_9, shC_10, shC_11, shC_12, shC_13, shC_14, shC_29, shC_58, shC_59, shC_60, shC_61, shC_62, shC_63, shC_64, shC_65, shC_66, shC_67, shC_68, shC_69, shC_70, shL_2, shL_3, shL_4, shL_5, shL_6, shL_8, shL_10, shL_12, shL_14, shL_29, shL_58, shL_60, shL_62, shL_63, shL_65, shL_66, shL_67, shL_68, shL_69, shL_70]; first | done | omega)) only [q65_0, q65_1, q65_4, q65_5, q65_8, q65_11, q65_12, q65_15, q65_16, q65_17, q65_20, q65_21, q65_22, q65_23, q65_25, q65_27, q65_28, shC_0, shC_1, shC_2, shC_3, shC_4, shC_5, shC_6, shC_7, shC_8, shC_9, shC_10, shC_11, shC_12, shC_13, shC_14, shC_29, shC_58, shC_59, shC_60, shC_61, shC_62, shC_63, shC_64, shC_65, shC_66, shC_67, shC_68, shC_69, shC_70, shL_2, shL_3, shL_4, shL_5, shL_6, shL_8, shL_10, shL_12, shL_14, shL_29, shL_58, shL_60, shL_62, shL_63, shL_65, shL_66, shL_67, shL_68, shL_69, shL_70, shR_0_0, shR_0_1, shR_0_2, shR_0_3, shR_0_4, shR_0_5, shR_0_6, shR_0_7, shR_1_3, shR_1_4, shR_1_5, shR_1_6, shR_1_7, shR_1_8, shR_1_9, shR_1_10, shR_1_11, shR_7_2, shR_9_2, shR_11_2, shR_13_0, shR_59_0, shR_61_0, shR_61_1, shR_61_2, shR_64_0, shR_64_1, shR_64_2, shR_64_3, shR_64_4, shR_64_5, k35 T1, h1, k101 hO hE, setW_G h.1 hS.1, pushR_I, pushR_L, pushR_R, pushR_V, InR_gg, InR_ga, InR_wr, InL_gl, InR_b, b01, b01_0, if_true, if_false, not_true_eq_false, not_false_eq_true, and_true, true_and, and_self, Sum.inl.injEq, one0, Bool.false_eq_true]
    by_cases hz : setW (S 0) = 0
    · have e9 : ¬ (9 : Int) < 0 := by omega
      rw [if_pos hz]
      simp (disch := first | with_reducible assumption | omega | exact ga_in _ _ _ | exact gg_in _ _ _ | (unfold InR; omega) | (unfold InL; omega) | (simp only [shC_0, shC_1, shC_2, shC_3, shC_4, shC_5, shC_6, shC_7, shC_8, shC_9, shC_10, shC_11, shC_12, shC_13, shC_14, shC_29, shC_58, shC_59, shC_60, shC_61, shC_62, shC_63, shC_64, shC_65, shC_66, shC_67, shC_68, shC_69, shC_70, shL_2, shL_3, shL_4, shL_5, shL_6, shL_8, shL_10, shL_12, shL_14, shL_29, shL_58, shL_60, shL_62, shL_63, shL_65, shL_66, shL_67, shL_68, shL_69, shL_70]; first | done | omega)) only [q65_30, q65_32, q65_34, q65_37, q65_38, q65_94, q65_95, e9, hz, pushR_I, pushR_L, pushR_R, pushR_V, InR_gg, InR_ga, InR_wr, InL_gl, InR_b, b01, b01_0, if_true, if_false, not_true_eq_false, not_false_eq_true, and_true, true_and, and_self, Sum.inl.injEq, one0, Bool.false_eq_true]
      exact OP_id h
    · rw [if_neg hz, ← tell_start hS.1]
      exact l65 (d := d) h.1 hS.1 h1' hz 10 0 (-1, 8) σ _ _ (by omega) (SAM_refl _ _) ⟨⟨by show (-1 : Int) ≤ -1; omega, by show (-1 : Int) ≤ 1000; omega⟩, by show (0 : Int) ≤ 8; omega, by show (8 : Int) ≤ 100; omega⟩ (fun τ' hs => OP_scr h hs hp)
  · rw [if_neg (fun q => h1 (by unfold hasO at q; omega))]
    simp (disch := first | with_reducible assumption | omega | exact ga_in _ _ _ | exact gg_in _ _ _ | (unfold InR; omega) | (unfold InL; omega) | (simp only [shC_0, shC_1, shC_2, shC_3, shC_4, shC_5, shC_6, shC_7, shC_8, shC_9, shC_10, shC_11, shC_12, shC_13, shC_14, shC_29, shC_58, shC_59, shC_60, shC_61, shC_62, shC_63, shC_64, shC_65, shC_66, shC_67, shC_68, shC_69, shC_70, shL_2, shL_3, shL_4, shL_5, shL_6, shL_8, shL_10, shL_12, shL_14, shL_29, shL_58, shL_60, shL_62, shL_63, shL_65, shL_66, shL_67, shL_68, shL_69, shL_70]; first | done | omega)) only [q65_0, q65_1, q65_4, q65_5, q65_8, q65_11, q65_12, q65_15, q65_16, q65_17, q65_20, q65_21, q65_22, q65_23, q65_25, q65_27, q65_28, shC_0, shC_1, shC_2, shC_3, shC_4, shC_5, shC_6, shC_7, shC_8, shC_9, shC_10, shC_11, shC_12, shC_13, shC_14, shC_29, shC_58, shC_59, shC_60, shC_61, shC_62, shC_63, shC_64, shC_65, shC_66, shC_67, shC_68, shC_69, shC_70, shL_2, shL_3, shL_4, shL_5, shL_6, shL_8, shL_10, shL_12, shL_14, shL_29, shL_58, shL_60, shL_62, shL_63, shL_65, shL_66, shL_67, shL_68, shL_69, shL_70, shR_0_0, shR_0_1, shR_0_2, shR_0_3, shR_0_4, shR_0_5, shR_0_6, shR_0_7, shR_1_3, shR_1_4, shR_1_5, shR_1_6, shR_1_7, shR_1_8, shR_1_9, shR_1_10, shR_1_11, shR_7_2, shR_9_2, shR_11_2, shR_13_0, shR_59_0, shR_61_0, shR_61_1, shR_61_2, shR_64_0, shR_64_1, shR_64_2, shR_64_3, shR_64_4, shR_64_5, k35 T1, h1, k82, pushR_I, pushR_L, pushR_R, pushR_V, InR_gg, InR_ga, InR_wr, InL_gl, InR_b, b01, b01_0, if_true, if_false, not_true_eq_false, not_false_eq_true, and_true, true_and, and_self, Sum.inl.injEq, one0, Bool.false_eq_true]
    exact OP_bad h
theorem l70i {g : Int → Int} (hT : TRc σ 1 g) (hG : GOK g) {l : Int} (hl : 0 ≤ l ∧ l < g 13) {k : Nat} (hk : k ≤ 3) : ∀ (n dd : Nat) (B : Int × Int) (τ : SG) (w7 : AV), dd + n = 21 → SAM S70 σ τ → bstB B →
    (∀ τ' w, bstB (foldU (fun dd B => bstS (lookA g l k dd) (100 * (k : Int) + (dd : Int)) B) n dd B) → SAM S70 σ τ' → Wp none (d + 19) 70 99 [.inr (.inr (.inl 0)), .inl l, .inl (setL g l), .inl (foldU (fun dd B => bstS (lookA g l k dd) (100 * (k : Int) + (dd : Int)) B) n dd B).1, .inl (foldU (fun dd B => bstS (lookA g l k dd) (100 * (k : Int) + (dd : Int)) B) n dd B).2, .inl (k : Int), .inl 21, w] [] τ' Q) →
    Wp none (d + 19) 70 44 [.inr (.inr (.inl 0)), .inl l, .inl (setL g l), .inl B.1, .inl B.2, .inl (k : Int), .inl (dd : Int), w7] [] τ Q := by
  have hb : 0 ≤ setL g l ∧ setL g l < 128 := set_b (by omega)
  have g1 := hG.1
  have g4 := hG.2.2.2.1 l hl.1 hl.2
  intro n
  induction n with
  | zero =>
    intro dd B τ w7 hk2 hs hB hq
    have e : dd = 21 := by omega
    subst e
    have e1 : ((21 : Nat) : Int) = 21 := rfl
    have e2 : (20 : Int) < 21 := by omega
    simp (disch := first | with_reducible assumption | omega | exact ga_in _ _ _ | exact gg_in _ _ _ | (unfold InR; omega) | (unfold InL; omega) | (simp only [shC_0, shC_1, shC_2, shC_3, shC_4, shC_5, shC_6, shC_7, shC_8, shC_9, shC_10, shC_11, shC_12, shC_13, shC_14, shC_29, shC_58, shC_59, shC_60, shC_61, shC_62, shC_63, shC_64, shC_65, shC_66, shC_67, shC_68, shC_69, shC_70, shL_2, shL_3, shL_4, shL_5, shL_6, shL_8, shL_10, shL_12, shL_14, shL_29, shL_58, shL_60, shL_62, shL_63, shL_65, shL_66, shL_67, shL_68, shL_69, shL_70]; first | done | omega)) only [q70_44, q70_46, q70_48, e1, e2, pushR_I, pushR_L, pushR_R, pushR_V, InR_gg, InR_ga, InR_wr, InL_gl, InR_b, b01, b01_0, if_true, if_false, not_true_eq_false, not_false_eq_true, and_true, true_and, and_self, Sum.inl.injEq, one0, Bool.false_eq_true]
    exact hq τ w7 hB hs
  | succ n ih =>
    intro dd B τ w7 hk2 hs hB hq
    have hT' := TRc_70 hT hs
    have e2 : ¬ (20 : Int) < (dd : Int) := by omega
    have ab := lookA_b (g := g) (l := l) k dd
    have eu : ga τ 3 l = g (21 + l) := (hT'.2.1 l hl.1 hl.2).2.1
    obtain ⟨⟨B1, B2⟩, B3, B4⟩ := hB
    simp (disch := first | with_reducible assumption | omega | exact ga_in _ _ _ | exact gg_in _ _ _ | (unfold InR; omega) | (unfold InL; omega) | (simp only [shC_0, shC_1, shC_2, shC_3, shC_4, shC_5, shC_6, shC_7, shC_8, shC_9, shC_10, shC_11, shC_12, shC_13, shC_14, shC_29, shC_58, shC_59, shC_60, shC_61, shC_62, shC_63, shC_64, shC_65, shC_66, shC_67, shC_68, shC_69, shC_70, shL_2, shL_3, shL_4, shL_5, shL_6, shL_8, shL_10, shL_12, shL_14, shL_29, shL_58, shL_60, shL_62, shL_63, shL_65, shL_66, shL_67, shL_68, shL_69, shL_70]; first | done | omega)) only [q70_44, q70_46, q70_48, q70_51, q70_52, q70_53, q70_54, q70_57, q70_60, q70_61, q70_64, q70_66, q70_68, shC_0, shC_1, shC_2, shC_3, shC_4, shC_5, shC_6, shC_7, shC_8, shC_9, shC_10, shC_11, shC_12, shC_13, shC_14, shC_29, shC_58, shC_59, shC_60, shC_61, shC_62, shC_63, shC_64, shC_65, shC_66, shC_67, shC_68, shC_69, shC_70, shL_2, shL_3, shL_4, shL_5, shL_6, shL_8, shL_10, shL_12, shL_14, shL_29, shL_58, shL_60, shL_62, shL_63, shL_65, shL_66, shL_67, shL_68, shL_69, shL_70, shR_0_0, shR_0_1, shR_0_2, shR_0_3, shR_0_4, shR_0_5, shR_0_6, shR_0_7, shR_1_3, shR_1_4, shR_1_5, shR_1_6, shR_1_7, shR_1_8, shR_1_9, shR_1_10, shR_1_11, shR_7_2, shR_9_2, shR_11_2, shR_13_0, shR_59_0, shR_61_0, shR_61_1, shR_61_2, shR_64_0, shR_64_1, shR_64_2, shR_64_3, shR_64_4, shR_64_5, e2, k89, eu, pushR_I, pushR_L, pushR_R, pushR_V, InR_gg, InR_ga, InR_wr, InL_gl, InR_b, b01, b01_0, if_true, if_false, not_true_eq_false, not_false_eq_true, and_true, true_and, and_self, Sum.inl.injEq, one0, Bool.false_eq_true]
    refine CalK_E (m108 (d := d + 15) (σ := τ) (u := g (21 + l)) (bits := setL g l) (k := (k : Int)) (dd := (dd : Int)) (by omega) (by omega) (by omega) (by omega)) (fun r υ hP => ?_)
    obtain ⟨rfl, hs2⟩ := hP
    rw [show mostL (cmpF (hasb (setL g l)) (fun i => ltI (i : Int) (g (21 + l)) (k : Int) (dd : Int)) 0 6) = lookA g l k dd from rfl]
    have hs3 := SAM_trans hs hs2
    by_cases c : lookA g l k dd < B.2
    · have c' : ¬ B.2 ≤ lookA g l k dd := by omega
      simp (disch := first | with_reducible assumption | omega | exact ga_in _ _ _ | exact gg_in _ _ _ | (unfold InR; omega) | (unfold InL; omega) | (simp only [shC_0, shC_1, shC_2, shC_3, shC_4, shC_5, shC_6, shC_7, shC_8, shC_9, shC_10, shC_11, shC_12, shC_13, shC_14, shC_29, shC_58, shC_59, shC_60, shC_61, shC_62, shC_63, shC_64, shC_65, shC_66, shC_67, shC_68, shC_69, shC_70, shL_2, shL_3, shL_4, shL_5, shL_6, shL_8, shL_10, shL_12, shL_14, shL_29, shL_58, shL_60, shL_62, shL_63, shL_65, shL_66, shL_67, shL_68, shL_69, shL_70]; first | done | omega)) only [q70_71, q70_73, q70_75, q70_77, q70_80, q70_82, q70_84, q70_86, q70_88, q70_89, q70_91, q70_92, q70_93, c', pushR_I, pushR_L, pushR_R, pushR_V, InR_gg, InR_ga, InR_wr, InL_gl, InR_b, b01, b01_0, if_true, if_false, not_true_eq_false, not_false_eq_true, and_true, true_and, and_self, Sum.inl.injEq, one0, Bool.false_eq_true]
      rw [q70_96]
      have eb : bstS (lookA g l k dd) (100 * (k : Int) + (dd : Int)) B = (100 * (k : Int) + (dd : Int), lookA g l k dd) := by unfold bstS; rw [if_pos c]
      simp only [foldU] at hq
      rw [eb] at hq
      exact ih (dd + 1) (100 * (k : Int) + (dd : Int), lookA g l k dd) υ _ (by omega) hs3 ⟨⟨by show -1 ≤ 100 * (k : Int) + (dd : Int); omega, by show 100 * (k : Int) + (dd : Int) ≤ 1000; omega⟩, ab.1, by show lookA g l k dd ≤ 100; omega⟩ hq
    · have c' : B.2 ≤ lookA g l k dd := by omega
      simp (disch := first | with_reducible assumption | omega | exact ga_in _ _ _ | exact gg_in _ _ _ | (unfold InR; omega) | (unfold InL; omega) | (simp only [shC_0, shC_1, shC_2, shC_3, shC_4, shC_5, shC_6, shC_7, shC_8, shC_9, shC_10, shC_11, shC_12, shC_13, shC_14, shC_29, shC_58, shC_59, shC_60, shC_61, shC_62, shC_63, shC_64, shC_65, shC_66, shC_67, shC_68, shC_69, shC_70, shL_2, shL_3, shL_4, shL_5, shL_6, shL_8, shL_10, shL_12, shL_14, shL_29, shL_58, shL_60, shL_62, shL_63, shL_65, shL_66, shL_67, shL_68, shL_69, shL_70]; first | done | omega)) only [q70_71, q70_73, q70_75, q70_77, q70_80, q70_82, q70_84, q70_86, q70_88, q70_89, q70_91, q70_92, q70_93, c', pushR_I, pushR_L, pushR_R, pushR_V, InR_gg, InR_ga, InR_wr, InL_gl, InR_b, b01, b01_0, if_true, if_false, not_true_eq_false, not_false_eq_true, and_true, true_and, and_self, Sum.inl.injEq, one0, Bool.false_eq_true]
      rw [q70_96]
      have eb : bstS (lookA g l k dd) (100 * (k : Int) + (dd : Int)) B = B := by unfold bstS; rw [if_neg c]
      simp only [foldU] at hq
      rw [eb] at hq
      exact ih (dd + 1) B υ _ (by omega) hs3 ⟨⟨B1, B2⟩, B3, B4⟩ hq
theorem l70 {g : Int → Int} (hT : TRc σ 1 g) (hG : GOK g) {l : Int} (hl : 0 ≤ l ∧ l < g 13) (hn : ¬ setL g l = 0) : ∀ (n k : Nat) (B : Int × Int) (τ : SG) (w6 w7 : AV), k + n = 4 → SAM S70 σ τ → bstB B →
    (∀ τ', SAM S70 σ τ' → Q (.inl (foldU (lookB g l) n k B).1) τ') →
    Wp none (d + 19) 70 31 [.inr (.inr (.inl 0)), .inl l, .inl (setL g l), .inl B.1, .inl B.2, .inl (k : Int), w6, w7] [] τ Q := by
  have hb : 0 ≤ setL g l ∧ setL g l < 128 := set_b (by omega)
  intro n
  induction n with
  | zero =>
    intro k B τ w6 w7 hk hs hB hq
    have e2 : (3 : Int) < (k : Int) := by omega
    obtain ⟨⟨B1, B2⟩, B3, B4⟩ := hB
    simp (disch := first | with_reducible assumption | omega | exact ga_in _ _ _ | exact gg_in _ _ _ | (unfold InR; omega) | (unfold InL; omega) | (simp only [shC_0, shC_1, shC_2, shC_3, shC_4, shC_5, shC_6, shC_7, shC_8, shC_9, shC_10, shC_11, shC_12, shC_13, shC_14, shC_29, shC_58, shC_59, shC_60, shC_61, shC_62, shC_63, shC_64, shC_65, shC_66, shC_67, shC_68, shC_69, shC_70, shL_2, shL_3, shL_4, shL_5, shL_6, shL_8, shL_10, shL_12, shL_14, shL_29, shL_58, shL_60, shL_62, shL_63, shL_65, shL_66, shL_67, shL_68, shL_69, shL_70]; first | done | omega)) only [q70_31, q70_33, q70_34, q70_37, q70_38, q70_105, q70_106, e2, pushR_I, pushR_L, pushR_R, pushR_V, InR_gg, InR_ga, InR_wr, InL_gl, InR_b, b01, b01_0, if_true, if_false, not_true_eq_false, not_false_eq_true, and_true, true_and, and_self, Sum.inl.injEq, one0, Bool.false_eq_true]
    exact hq τ hs
  | succ n ih =>
    intro k B τ w6 w7 hk hs hB hq
    have e2 : ¬ (3 : Int) < (k : Int) := by omega
    simp (disch := first | with_reducible assumption | omega | exact ga_in _ _ _ | exact gg_in _ _ _ | (unfold InR; omega) | (unfold InL; omega) | (simp only [shC_0, shC_1, shC_2, shC_3, shC_4, shC_5, shC_6, shC_7, shC_8, shC_9, shC_10, shC_11, shC_12, shC_13, shC_14, shC_29, shC_58, shC_59, shC_60, shC_61, shC_62, shC_63, shC_64, shC_65, shC_66, shC_67, shC_68, shC_69, shC_70, shL_2, shL_3, shL_4, shL_5, shL_6, shL_8, shL_10, shL_12, shL_14, shL_29, shL_58, shL_60, shL_62, shL_63, shL_65, shL_66, shL_67, shL_68, shL_69, shL_70]; first | done | omega)) only [q70_31, q70_33, q70_34, q70_37, q70_38, q70_41, q70_42, e2, hn, pushR_I, pushR_L, pushR_R, pushR_V, InR_gg, InR_ga, InR_wr, InL_gl, InR_b, b01, b01_0, if_true, if_false, not_true_eq_false, not_false_eq_true, and_true, true_and, and_self, Sum.inl.injEq, one0, Bool.false_eq_true]
    refine l70i hT hG hl (k := k) (by omega) 21 0 B τ _ (by omega) hs hB (fun τ' w hB' hs' => ?_)
    simp (disch := first | with_reducible assumption | omega | exact ga_in _ _ _ | exact gg_in _ _ _ | (unfold InR; omega) | (unfold InL; omega) | (simp only [shC_0, shC_1, shC_2, shC_3, shC_4, shC_5, shC_6, shC_7, shC_8, shC_9, shC_10, shC_11, shC_12, shC_13, shC_14, shC_29, shC_58, shC_59, shC_60, shC_61, shC_62, shC_63, shC_64, shC_65, shC_66, shC_67, shC_68, shC_69, shC_70, shL_2, shL_3, shL_4, shL_5, shL_6, shL_8, shL_10, shL_12, shL_14, shL_29, shL_58, shL_60, shL_62, shL_63, shL_65, shL_66, shL_67, shL_68, shL_69, shL_70]; first | done | omega)) only [q70_99, pushR_I, pushR_L, pushR_R, pushR_V, InR_gg, InR_ga, InR_wr, InL_gl, InR_b, b01, b01_0, if_true, if_false, not_true_eq_false, not_false_eq_true, and_true, true_and, and_self, Sum.inl.injEq, one0, Bool.false_eq_true]
    rw [q70_102]
    exact ih (k + 1) _ τ' _ _ (by omega) hs' hB' hq
theorem look_start {g : Int → Int} {l : Int} : foldU (lookB g l) 4 0 (-1, 7) = foldU (lookB g l) 4 0 (-1, 99) := by
  have ab := lookA_b (g := g) (l := l) 0 0
  exact foldU_start (n := 3) (foldU_start (n := 20) (bst_start (a := lookA g l 0 0) (by omega) (by omega)))
theorem o70 (h : CR σ S) (hS : SOK S) {l : Int} (hl : InR l) : CalE (d + 20) 70 [.inr (.inr (.inl 0)), .inl l] σ (OPC σ (fLook S l)) := by
  obtain ⟨hO, hE, hN, hM, e0, e1, e2, e13⟩ := CR_T h hS
  have hb : 0 ≤ setL (S 0) l ∧ setL (S 0) l < 128 := set_b (by omega)
  have hp : ∀ a b, S70 a b → 61 ≤ a ∧ a ≤ 70 := fun a b q => by unfold S70 at q; omega
  refine Cal_ex (ls := [.inr (.inr (.inl 0)), .inl l, aU, aU, aU, aU, aU, aU]) rfl mna_70 mml_70 mhl_70 rfl rfl ?_
  unfold fLook
  by_cases h1 : 0 ≤ l ∧ l < gg σ 1 0
  · have h1' : 0 ≤ l ∧ l < S 0 13 := by omega
    rw [if_pos h1']
    simp (disch := first | with_reducible assumption | omega | exact ga_in _ _ _ | exact gg_in _ _ _ | (unfold InR; omega) | (unfold InL; omega) | (simp only [shC_0, shC_1, shC_2, shC_3, shC_4, shC_5, shC_6, shC_7, shC_8, shC_9, shC_10, shC_11, shC_12, shC_13, shC_14, shC_29, shC_58, shC_59, shC_60, shC_61, shC_62, shC_63, shC_64, shC_65, shC_66, shC_67, shC_68, shC_69, shC_70, shL_2, shL_3, shL_4, shL_5, shL_6, shL_8, shL_10, shL_12, shL_14, shL_29, shL_58, shL_60, shL_62, shL_63, shL_65, shL_66, shL_67, shL_68, shL_69, shL_70]; first | done | omega)) only [q70_0, q70_1, q70_4, q70_5, q70_8, q70_11, q70_12, q70_15, q70_16, q70_17, q70_18, q70_21, q70_22, q70_23, q70_24, q70_26, q70_28, q70_29, shC_0, shC_1, shC_2, shC_3, shC_4, shC_5, shC_6, shC_7, shC_8, shC_9, shC_10, shC_11, shC_12, shC_13, shC_14, shC_29, shC_58, shC_59, shC_60, shC_61, shC_62, shC_63, shC_64, shC_65, shC_66, shC_67, shC_68, shC_69, shC_70, shL_2, shL_3, shL_4, shL_5, shL_6, shL_8, shL_10, shL_12, shL_14, shL_29, shL_58, shL_60, shL_62, shL_63, shL_65, shL_66, shL_67, shL_68, shL_69, shL_70, shR_0_0, shR_0_1, shR_0_2, shR_0_3, shR_0_4, shR_0_5, shR_0_6, shR_0_7, shR_1_3, shR_1_4, shR_1_5, shR_1_6, shR_1_7, shR_1_8, shR_1_9, shR_1_10, shR_1_11, shR_7_2, shR_9_2, shR_11_2, shR_13_0, shR_59_0, shR_61_0, shR_61_1, shR_61_2, shR_64_0, shR_64_1, shR_64_2, shR_64_3, shR_64_4, shR_64_5, k34 T1, h1, k103 hN, setL_G h.1 hS.1, pushR_I, pushR_L, pushR_R, pushR_V, InR_gg, InR_ga, InR_wr, InL_gl, InR_b, b01, b01_0, if_true, if_false, not_true_eq_false, not_false_eq_true, and_true, true_and, and_self, Sum.inl.injEq, one0, Bool.false_eq_true]
    by_cases hz : setL (S 0) l = 0
    · have e9 : ¬ (3 : Int) < 0 := by omega
      rw [if_pos hz]
      simp (disch := first | with_reducible assumption | omega | exact ga_in _ _ _ | exact gg_in _ _ _ | (unfold InR; omega) | (unfold InL; omega) | (simp only [shC_0, shC_1, shC_2, shC_3, shC_4, shC_5, shC_6, shC_7, shC_8, shC_9, shC_10, shC_11, shC_12, shC_13, shC_14, shC_29, shC_58, shC_59, shC_60, shC_61, shC_62, shC_63, shC_64, shC_65, shC_66, shC_67, shC_68, shC_69, shC_70, shL_2, shL_3, shL_4, shL_5, shL_6, shL_8, shL_10, shL_12, shL_14, shL_29, shL_58, shL_60, shL_62, shL_63, shL_65, shL_66, shL_67, shL_68, shL_69, shL_70]; first | done | omega)) only [q70_31, q70_33, q70_34, q70_37, q70_38, q70_105, q70_106, e9, hz, pushR_I, pushR_L, pushR_R, pushR_V, InR_gg, InR_ga, InR_wr, InL_gl, InR_b, b01, b01_0, if_true, if_false, not_true_eq_false, not_false_eq_true, and_true, true_and, and_self, Sum.inl.injEq, one0, Bool.false_eq_true]
      exact OP_id h
    · rw [if_neg hz, ← look_start]
      exact l70 (d := d) h.1 hS.1 h1' hz 4 0 (-1, 7) σ _ _ (by omega) (SAM_refl _ _) ⟨⟨by show (-1 : Int) ≤ -1; omega, by show (-1 : Int) ≤ 1000; omega⟩, by show (0 : Int) ≤ 7; omega, by show (7 : Int) ≤ 100; omega⟩ (fun τ' hs => OP_scr h hs hp)
  · rw [if_neg (fun q => h1 (by unfold hasL at q; omega))]
    simp (disch := first | with_reducible assumption | omega | exact ga_in _ _ _ | exact gg_in _ _ _ | (unfold InR; omega) | (unfold InL; omega) | (simp only [shC_0, shC_1, shC_2, shC_3, shC_4, shC_5, shC_6, shC_7, shC_8, shC_9, shC_10, shC_11, shC_12, shC_13, shC_14, shC_29, shC_58, shC_59, shC_60, shC_61, shC_62, shC_63, shC_64, shC_65, shC_66, shC_67, shC_68, shC_69, shC_70, shL_2, shL_3, shL_4, shL_5, shL_6, shL_8, shL_10, shL_12, shL_14, shL_29, shL_58, shL_60, shL_62, shL_63, shL_65, shL_66, shL_67, shL_68, shL_69, shL_70]; first | done | omega)) only [q70_0, q70_1, q70_4, q70_5, q70_8, q70_11, q70_12, q70_15, q70_16, q70_17, q70_18, q70_21, q70_22, q70_23, q70_24, q70_26, q70_28, q70_29, shC_0, shC_1, shC_2, shC_3, shC_4, shC_5, shC_6, shC_7, shC_8, shC_9, shC_10, shC_11, shC_12, shC_13, shC_14, shC_29, shC_58, shC_59, shC_60, shC_61, shC_62, shC_63, shC_64, shC_65, shC_66, shC_67, shC_68, shC_69, shC_70, shL_2, shL_3, shL_4, shL_5, shL_6, shL_8, shL_10, shL_12, shL_14, shL_29, shL_58, shL_60, shL_62, shL_63, shL_65, shL_66, shL_67, shL_68, shL_69, shL_70, shR_0_0, shR_0_1, shR_0_2, shR_0_3, shR_0_4, shR_0_5, shR_0_6, shR_0_7, shR_1_3, shR_1_4, shR_1_5, shR_1_6, shR_1_7, shR_1_8, shR_1_9, shR_1_10, shR_1_11, shR_7_2, shR_9_2, shR_11_2, shR_13_0, shR_59_0, shR_61_0, shR_61_1, shR_61_2, shR_64_0, shR_64_1, shR_64_2, shR_64_3, shR_64_4, shR_64_5, k34 T1, h1, k82, pushR_I, pushR_L, pushR_R, pushR_V, InR_gg, InR_ga, InR_wr, InL_gl, InR_b, b01, b01_0, if_true, if_false, not_true_eq_false, not_false_eq_true, and_true, true_and, and_self, Sum.inl.injEq, one0, Bool.false_eq_true]
    exact OP_bad h
theorem l72 {g : Int → Int} (hT : TRc σ 1 g) (hG : GOK g) {o : Int} (ho : 0 ≤ o ∧ o < g 28) (hn : ¬ setO g o = 0) : ∀ (n x : Nat) (B : Int × Int) (τ : SG) (w6 : AV), x + n = 61 → SAM S70 σ τ → bstB B →
    (∀ τ', SAM S70 σ τ' → Q (.inl (foldU (askB g o) n x B).1) τ') →
    Wp none (d + 19) 72 31 [.inr (.inr (.inl 0)), .inl o, .inl (setO g o), .inl B.1, .inl B.2, .inl (x : Int), w6] [] τ Q := by
  have hb : 0 ≤ setO g o ∧ setO g o < 128 := set_b (by omega)
  have g1 := hG.2.1
  have g5 := (hG.2.2.2.2.1 o ho.1 ho.2).2
  intro n
  induction n with
  | zero =>
    intro x B τ w6 hx hs hB hq
    have e2 : (60 : Int) < (x : Int) := by omega
    obtain ⟨⟨B1, B2⟩, B3, B4⟩ := hB
    simp (disch := first | with_reducible assumption | omega | exact ga_in _ _ _ | exact gg_in _ _ _ | (unfold InR; omega) | (unfold InL; omega) | (simp only [shC_0, shC_1, shC_2, shC_3, shC_4, shC_5, shC_6, shC_7, shC_8, shC_9, shC_10, shC_11, shC_12, shC_13, shC_14, shC_29, shC_58, shC_59, shC_60, shC_61, shC_62, shC_63, shC_64, shC_65, shC_66, shC_67, shC_68, shC_69, shC_70, shL_2, shL_3, shL_4, shL_5, shL_6, shL_8, shL_10, shL_12, shL_14, shL_29, shL_58, shL_60, shL_62, shL_63, shL_65, shL_66, shL_67, shL_68, shL_69, shL_70]; first | done | omega)) only [q72_31, q72_33, q72_35, q72_38, q72_39, q72_82, q72_83, e2, pushR_I, pushR_L, pushR_R, pushR_V, InR_gg, InR_ga, InR_wr, InL_gl, InR_b, b01, b01_0, if_true, if_false, not_true_eq_false, not_false_eq_true, and_true, true_and, and_self, Sum.inl.injEq, one0, Bool.false_eq_true]
    exact hq τ hs
  | succ n ih =>
    intro x B τ w6 hx hs hB hq
    have hT' := TRc_70 hT hs
    have e2 : ¬ (60 : Int) < (x : Int) := by omega
    have ab := askA_b (g := g) (o := o) x
    have eu : ga τ 6 o = g (1 + o) := (hT'.2.2.1 o ho.1 ho.2).2
    obtain ⟨⟨B1, B2⟩, B3, B4⟩ := hB
    simp (disch := first | with_reducible assumption | omega | exact ga_in _ _ _ | exact gg_in _ _ _ | (unfold InR; omega) | (unfold InL; omega) | (simp only [shC_0, shC_1, shC_2, shC_3, shC_4, shC_5, shC_6, shC_7, shC_8, shC_9, shC_10, shC_11, shC_12, shC_13, shC_14, shC_29, shC_58, shC_59, shC_60, shC_61, shC_62, shC_63, shC_64, shC_65, shC_66, shC_67, shC_68, shC_69, shC_70, shL_2, shL_3, shL_4, shL_5, shL_6, shL_8, shL_10, shL_12, shL_14, shL_29, shL_58, shL_60, shL_62, shL_63, shL_65, shL_66, shL_67, shL_68, shL_69, shL_70]; first | done | omega)) only [q72_31, q72_33, q72_35, q72_38, q72_39, q72_42, q72_43, q72_44, q72_46, q72_47, q72_50, q72_53, q72_54, q72_57, shC_0, shC_1, shC_2, shC_3, shC_4, shC_5, shC_6, shC_7, shC_8, shC_9, shC_10, shC_11, shC_12, shC_13, shC_14, shC_29, shC_58, shC_59, shC_60, shC_61, shC_62, shC_63, shC_64, shC_65, shC_66, shC_67, shC_68, shC_69, shC_70, shL_2, shL_3, shL_4, shL_5, shL_6, shL_8, shL_10, shL_12, shL_14, shL_29, shL_58, shL_60, shL_62, shL_63, shL_65, shL_66, shL_67, shL_68, shL_69, shL_70, shR_0_0, shR_0_1, shR_0_2, shR_0_3, shR_0_4, shR_0_5, shR_0_6, shR_0_7, shR_1_3, shR_1_4, shR_1_5, shR_1_6, shR_1_7, shR_1_8, shR_1_9, shR_1_10, shR_1_11, shR_7_2, shR_9_2, shR_11_2, shR_13_0, shR_59_0, shR_61_0, shR_61_1, shR_61_2, shR_64_0, shR_64_1, shR_64_2, shR_64_3, shR_64_4, shR_64_5, e2, hn, k89, eu, pushR_I, pushR_L, pushR_R, pushR_V, InR_gg, InR_ga, InR_wr, InL_gl, InR_b, b01, b01_0, if_true, if_false, not_true_eq_false, not_false_eq_true, and_true, true_and, and_self, Sum.inl.injEq, one0, Bool.false_eq_true]
    refine CalK_E (m109 (d := d + 15) (σ := τ) (x := (x : Int)) (bits := setO g o) (h0 := g (1 + o)) (by omega) (by omega) (by omega)) (fun r υ hP => ?_)
    obtain ⟨rfl, hs2⟩ := hP
    rw [show mostL (cmpF (hasb (setO g o)) (fun i => tkI (i : Int) (x : Int) (g (1 + o))) 0 6) = askA g o x from rfl]
    have hs3 := SAM_trans hs hs2
    by_cases c : askA g o x < B.2
    · have c' : ¬ B.2 ≤ askA g o x := by omega
      simp (disch := first | with_reducible assumption | omega | exact ga_in _ _ _ | exact gg_in _ _ _ | (unfold InR; omega) | (unfold InL; omega) | (simp only [shC_0, shC_1, shC_2, shC_3, shC_4, shC_5, shC_6, shC_7, shC_8, shC_9, shC_10, shC_11, shC_12, shC_13, shC_14, shC_29, shC_58, shC_59, shC_60, shC_61, shC_62, shC_63, shC_64, shC_65, shC_66, shC_67, shC_68, shC_69, shC_70, shL_2, shL_3, shL_4, shL_5, shL_6, shL_8, shL_10, shL_12, shL_14, shL_29, shL_58, shL_60, shL_62, shL_63, shL_65, shL_66, shL_67, shL_68, shL_69, shL_70]; first | done | omega)) only [q72_60, q72_62, q72_64, q72_66, q72_69, q72_71, q72_73, q72_75, q72_76, c', pushR_I, pushR_L, pushR_R, pushR_V, InR_gg, InR_ga, InR_wr, InL_gl, InR_b, b01, b01_0, if_true, if_false, not_true_eq_false, not_false_eq_true, and_true, true_and, and_self, Sum.inl.injEq, one0, Bool.false_eq_true]
      rw [q72_79]
      have eb : askB g o x B = ((x : Int), askA g o x) := by unfold askB bstS; rw [if_pos c]
      simp only [foldU] at hq
      rw [eb] at hq
      exact ih (x + 1) ((x : Int), askA g o x) υ _ (by omega) hs3 ⟨⟨by show -1 ≤ (x : Int); omega, by show (x : Int) ≤ 1000; omega⟩, ab.1, by show askA g o x ≤ 100; omega⟩ hq
    · have c' : B.2 ≤ askA g o x := by omega
      simp (disch := first | with_reducible assumption | omega | exact ga_in _ _ _ | exact gg_in _ _ _ | (unfold InR; omega) | (unfold InL; omega) | (simp only [shC_0, shC_1, shC_2, shC_3, shC_4, shC_5, shC_6, shC_7, shC_8, shC_9, shC_10, shC_11, shC_12, shC_13, shC_14, shC_29, shC_58, shC_59, shC_60, shC_61, shC_62, shC_63, shC_64, shC_65, shC_66, shC_67, shC_68, shC_69, shC_70, shL_2, shL_3, shL_4, shL_5, shL_6, shL_8, shL_10, shL_12, shL_14, shL_29, shL_58, shL_60, shL_62, shL_63, shL_65, shL_66, shL_67, shL_68, shL_69, shL_70]; first | done | omega)) only [q72_60, q72_62, q72_64, q72_66, q72_69, q72_71, q72_73, q72_75, q72_76, c', pushR_I, pushR_L, pushR_R, pushR_V, InR_gg, InR_ga, InR_wr, InL_gl, InR_b, b01, b01_0, if_true, if_false, not_true_eq_false, not_false_eq_true, and_true, true_and, and_self, Sum.inl.injEq, one0, Bool.false_eq_true]
      rw [q72_79]
      have eb : askB g o x B = B := by unfold askB bstS; rw [if_neg c]
      simp only [foldU] at hq
      rw [eb] at hq
      exact ih (x + 1) B υ _ (by omega) hs3 ⟨⟨B1, B2⟩, B3, B4⟩ hq
theorem ask_start {g : Int → Int} {o : Int} : foldU (askB g o) 61 0 (-1, 7) = foldU (askB g o) 61 0 (-1, 99) := by
  have ab := askA_b (g := g) (o := o) 0
  exact foldU_start (n := 60) (bst_start (a := askA g o 0) (by omega) (by omega))
theorem o72 (h : CR σ S) (hS : SOK S) {o : Int} (ho : InR o) : CalE (d + 20) 72 [.inr (.inr (.inl 0)), .inl o] σ (OPC σ (fAsk S o)) := by
  obtain ⟨hO, hE, hN, hM, e0, e1, e2, e13⟩ := CR_T h hS
  have hb : 0 ≤ setO (S 0) o ∧ setO (S 0) o < 128 := set_b (by omega)
  have hp : ∀ a b, S70 a b → 61 ≤ a ∧ a ≤ 70 := fun a b q => by unfold S70 at q; omega
  refine Cal_ex (ls := [.inr (.inr (.inl 0)), .inl o, aU, aU, aU, aU, aU]) rfl mna_72 mml_72 mhl_72 rfl rfl ?_
  unfold fAsk
  by_cases h1 : 0 ≤ o ∧ o < gg σ 1 1
  · have h1' : 0 ≤ o ∧ o < S 0 28 := by omega
    rw [if_pos h1']
    simp (disch := first | with_reducible assumption | omega | exact ga_in _ _ _ | exact gg_in _ _ _ | (unfold InR; omega) | (unfold InL; omega) | (simp only [shC_0, shC_1, shC_2, shC_3, shC_4, shC_5, shC_6, shC_7, shC_8, shC_9, shC_10, shC_11, shC_12, shC_13, shC_14, shC_29, shC_58, shC_59, shC_60, shC_61, shC_62, shC_63, shC_64, shC_65, shC_66, shC_67, shC_68, shC_69, shC_70, shL_2, shL_3, shL_4, shL_5, shL_6, shL_8, shL_10, shL_12, shL_14, shL_29, shL_58, shL_60, shL_62, shL_63, shL_65, shL_66, shL_67, shL_68, shL_69, shL_70]; first | done | omega)) only [q72_0, q72_1, q72_4, q72_5, q72_8, q72_11, q72_12, q72_15, q72_16, q72_17, q72_18, q72_21, q72_22, q72_23, q72_24, q72_26, q72_28, q72_29, shC_0, shC_1, shC_2, shC_3, shC_4, shC_5, shC_6, shC_7, shC_8, shC_9, shC_10, shC_11, shC_12, shC_13, shC_14, shC_29, shC_58, shC_59, shC_60, shC_61, shC_62, shC_63, shC_64, shC_65, shC_66, shC_67, shC_68, shC_69, shC_70, shL_2, shL_3, shL_4, shL_5, shL_6, shL_8, shL_10, shL_12, shL_14, shL_29, shL_58, shL_60, shL_62, shL_63, shL_65, shL_66, shL_67, shL_68, shL_69, shL_70, shR_0_0, shR_0_1, shR_0_2, shR_0_3, shR_0_4, shR_0_5, shR_0_6, shR_0_7, shR_1_3, shR_1_4, shR_1_5, shR_1_6, shR_1_7, shR_1_8, shR_1_9, shR_1_10, shR_1_11, shR_7_2, shR_9_2, shR_11_2, shR_13_0, shR_59_0, shR_61_0, shR_61_1, shR_61_2, shR_64_0, shR_64_1, shR_64_2, shR_64_3, shR_64_4, shR_64_5, k35 T1, h1, k105 hM, setO_G h.1 hS.1, pushR_I, pushR_L, pushR_R, pushR_V, InR_gg, InR_ga, InR_wr, InL_gl, InR_b, b01, b01_0, if_true, if_false, not_true_eq_false, not_false_eq_true, and_true, true_and, and_self, Sum.inl.injEq, one0, Bool.false_eq_true]
    by_cases hz : setO (S 0) o = 0
    · have e9 : ¬ (60 : Int) < 0 := by omega
      rw [if_pos hz]
      simp (disch := first | with_reducible assumption | omega | exact ga_in _ _ _ | exact gg_in _ _ _ | (unfold InR; omega) | (unfold InL; omega) | (simp only [shC_0, shC_1, shC_2, shC_3, shC_4, shC_5, shC_6, shC_7, shC_8, shC_9, shC_10, shC_11, shC_12, shC_13, shC_14, shC_29, shC_58, shC_59, shC_60, shC_61, shC_62, shC_63, shC_64, shC_65, shC_66, shC_67, shC_68, shC_69, shC_70, shL_2, shL_3, shL_4, shL_5, shL_6, shL_8, shL_10, shL_12, shL_14, shL_29, shL_58, shL_60, shL_62, shL_63, shL_65, shL_66, shL_67, shL_68, shL_69, shL_70]; first | done | omega)) only [q72_31, q72_33, q72_35, q72_38, q72_39, q72_82, q72_83, e9, hz, pushR_I, pushR_L, pushR_R, pushR_V, InR_gg, InR_ga, InR_wr, InL_gl, InR_b, b01, b01_0, if_true, if_false, not_true_eq_false, not_false_eq_true, and_true, true_and, and_self, Sum.inl.injEq, one0, Bool.false_eq_true]
      exact OP_id h
    · rw [if_neg hz, ← ask_start]
      exact l72 (d := d) h.1 hS.1 h1' hz 61 0 (-1, 7) σ _ (by omega) (SAM_refl _ _) ⟨⟨by show (-1 : Int) ≤ -1; omega, by show (-1 : Int) ≤ 1000; omega⟩, by show (0 : Int) ≤ 7; omega, by show (7 : Int) ≤ 100; omega⟩ (fun τ' hs => OP_scr h hs hp)
  · rw [if_neg (fun q => h1 (by unfold hasO at q; omega))]
    simp (disch := first | with_reducible assumption | omega | exact ga_in _ _ _ | exact gg_in _ _ _ | (unfold InR; omega) | (unfold InL; omega) | (simp only [shC_0, shC_1, shC_2, shC_3, shC_4, shC_5, shC_6, shC_7, shC_8, shC_9, shC_10, shC_11, shC_12, shC_13, shC_14, shC_29, shC_58, shC_59, shC_60, shC_61, shC_62, shC_63, shC_64, shC_65, shC_66, shC_67, shC_68, shC_69, shC_70, shL_2, shL_3, shL_4, shL_5, shL_6, shL_8, shL_10, shL_12, shL_14, shL_29, shL_58, shL_60, shL_62, shL_63, shL_65, shL_66, shL_67, shL_68, shL_69, shL_70]; first | done | omega)) only [q72_0, q72_1, q72_4, q72_5, q72_8, q72_11, q72_12, q72_15, q72_16, q72_17, q72_18, q72_21, q72_22, q72_23, q72_24, q72_26, q72_28, q72_29, shC_0, shC_1, shC_2, shC_3, shC_4, shC_5, shC_6, shC_7, shC_8, shC_9, shC_10, shC_11, shC_12, shC_13, shC_14, shC_29, shC_58, shC_59, shC_60, shC_61, shC_62, shC_63, shC_64, shC_65, shC_66, shC_67, shC_68, shC_69, shC_70, shL_2, shL_3, shL_4, shL_5, shL_6, shL_8, shL_10, shL_12, shL_14, shL_29, shL_58, shL_60, shL_62, shL_63, shL_65, shL_66, shL_67, shL_68, shL_69, shL_70, shR_0_0, shR_0_1, shR_0_2, shR_0_3, shR_0_4, shR_0_5, shR_0_6, shR_0_7, shR_1_3, shR_1_4, shR_1_5, shR_1_6, shR_1_7, shR_1_8, shR_1_9, shR_1_10, shR_1_11, shR_7_2, shR_9_2, shR_11_2, shR_13_0, shR_59_0, shR_61_0, shR_61_1, shR_61_2, shR_64_0, shR_64_1, shR_64_2, shR_64_3, shR_64_4, shR_64_5, k35 T1, h1, k82, pushR_I, pushR_L, pushR_R, pushR_V, InR_gg, InR_ga, InR_wr, InL_gl, InR_b, b01, b01_0, if_true, if_false, not_true_eq_false, not_false_eq_true, and_true, true_and, and_self, Sum.inl.injEq, one0, Bool.false_eq_true]
    exact OP_bad h
end OPS4
