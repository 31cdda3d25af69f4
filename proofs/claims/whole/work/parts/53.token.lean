-- tokens, without a machine; and how the class steps over them
def skF (b : Nat → Int) : Nat → Nat → Nat
  | 0, p => p
  | k + 1, p => if b p = 32 then skF b k (p + 1) else p
def rnF (t : Int → Bool) (b : Nat → Int) : Nat → Nat → Nat
  | 0, p => p
  | k + 1, p => if t (b p) then rnF t b k (p + 1) else p
def ltr (c : Int) : Bool := decide (97 ≤ c ∧ c ≤ 122)
def fig (c : Int) : Bool := decide (48 ≤ c ∧ c ≤ 57)
def tS (b : Nat → Int) (N p : Nat) : Nat := skF b (N - p) p
def tE (b : Nat → Int) (N p : Nat) : Nat := if b (tS b N p) < 0 then tS b N p else if ltr (b (tS b N p)) then rnF ltr b (N - tS b N p) (tS b N p) else if fig (b (tS b N p)) then rnF fig b (N - tS b N p) (tS b N p) else tS b N p + 1
def tK (b : Nat → Int) (N p : Nat) : Int := if b (tS b N p) < 0 then 0 else if ltr (b (tS b N p)) then 1 else if fig (b (tS b N p)) then (if tE b N p - tS b N p ≤ 2 then 2 else 4) else if b (tS b N p) = 59 then 3 else 4
def tV (b : Nat → Int) (N p : Nat) : Int := if tE b N p - tS b N p = 1 then b (tS b N p) - 48 else 10 * (b (tS b N p) - 48) + b (tS b N p + 1) - 48
def wdI (i k : Nat) : Int := ((bytS.getD i []).getD k 0).toInt
def isWd (b : Nat → Int) (N i p : Nat) : Bool := decide (tK b N p = 1) && (decide (tE b N p - tS b N p = lenS.getD i 0) && allF (fun k => decide (b (tS b N p + k) = wdI i k)) 0 (lenS.getD i 0))
def TXb (b : Nat → Int) (N : Nat) : Prop := N ≤ 150 ∧ (∀ p, p < N → 0 ≤ b p ∧ b p ≤ 127) ∧ ∀ p, N ≤ p → b p = -1
section TOKEN
variable {b : Nat → Int} {N : Nat}
theorem skF_b : ∀ (k p : Nat), p ≤ skF b k p ∧ skF b k p ≤ p + k := by
  intro k
  induction k with
  | zero => intro p; simp [skF]
  | succ k ih =>
    intro p
    simp only [skF]
    have := ih (p + 1)
    split <;> omega
theorem rnF_b {t : Int → Bool} : ∀ (k p : Nat), p ≤ rnF t b k p ∧ rnF t b k p ≤ p + k := by
  intro k
  induction k with
  | zero => intro p; simp [rnF]
  | succ k ih =>
    intro p
    simp only [rnF]
    have := ih (p + 1)
    split <;> omega
theorem tS_b {p : Nat} (hp : p ≤ N) : p ≤ tS b N p ∧ tS b N p ≤ N := by
  have := skF_b (b := b) (N - p) p
  unfold tS
  omega
theorem tok_b (hb : TXb b N) {p : Nat} (hp : p ≤ N) : tS b N p ≤ tE b N p ∧ tE b N p ≤ N ∧ (¬ tK b N p = 0 → tS b N p < N ∧ tS b N p < tE b N p) ∧ (tK b N p = 0 → tS b N p = N) := by
  have h1 := tS_b (b := b) hp
  obtain ⟨b1, b2, b3⟩ := hb
  by_cases hN : tS b N p < N
  · have hc := b2 _ hN
    have hneg : ¬ b (tS b N p) < 0 := by omega
    have e : N - tS b N p = (N - tS b N p - 1) + 1 := by omega
    have hk : ¬ tK b N p = 0 := by
      unfold tK
      rw [if_neg hneg]
      repeat' split
      all_goals omega
    have he : tS b N p < tE b N p ∧ tE b N p ≤ N := by
      unfold tE
      rw [if_neg hneg]
      split
      · rename_i hl
        rw [e]
        simp only [rnF, hl, if_true]
        have := rnF_b (t := ltr) (b := b) (N - tS b N p - 1) (tS b N p + 1)
        omega
      · split
        · rename_i hl
          rw [e]
          simp only [rnF, hl, if_true]
          have := rnF_b (t := fig) (b := b) (N - tS b N p - 1) (tS b N p + 1)
          omega
        · omega
    exact ⟨by omega, he.2, fun _ => ⟨hN, he.1⟩, fun q => absurd q hk⟩
  · have eN : tS b N p = N := by omega
    have hneg : b (tS b N p) < 0 := by rw [eN, b3 N (Nat.le_refl _)]; omega
    have hk : tK b N p = 0 := by unfold tK; rw [if_pos hneg]
    have he : tE b N p = tS b N p := by unfold tE; rw [if_pos hneg]
    exact ⟨by omega, by omega, fun q => absurd hk q, fun _ => eN⟩
end TOKEN
def S59 (a b : Nat) : Prop := a = 59 ∧ 2 ≤ b
def TXC (σ : SG) (b : Nat → Int) (N : Nat) : Prop := gg σ 59 1 = (N : Int) ∧ (∀ p : Nat, p < N → ga σ 60 (p : Int) = b p) ∧ TXb b N
/-- the class's reader stands behind the token at p -/
def RDC (σ : SG) (b : Nat → Int) (N p : Nat) : Prop := gg σ 59 2 = (tE b N p : Int) ∧ gg σ 59 3 = (tS b N p : Int) ∧ gg σ 59 4 = tK b N p ∧ (tK b N p = 2 → gg σ 59 5 = tV b N p)
section STEPC
variable {d : Nat} {σ : SG} {b : Nat → Int} {N : Nat} {K : AV → SG → Prop} {Q : AV → SG → Prop}
theorem TXC_same {τ : SG} (h : TXC σ b N) (hs : SAM S59 σ τ) : TXC τ b N :=
  ⟨by rw [hs.1 _ _ (fun q => by have := q.2; omega), h.1], fun p hp => (hs.1 60 _ (fun q => by have := q.1; omega)).trans (h.2.1 p hp), h.2.2⟩
theorem b_r (h : TXb b N) (p : Nat) : -1 ≤ b p ∧ b p ≤ 127 := by
  by_cases hp : p < N
  · have := h.2.1 p hp; omega
  · rw [h.2.2 p (by omega)]; omega
theorem m18 (h : TXC σ b N) (p : Nat) (hp : p ≤ 1000) : Cal (d + 1) 18 [.inr (.inr (.inl 59)), .inl (p : Int)] σ (.inl (b p)) σ := by
  obtain ⟨h1, h2, h3⟩ := h
  have hN := h3.1
  have hr := b_r h3 p
  have c150 : ((150 : Nat) : Int) = 150 := rfl
  have hp0 : ¬ (p : Int) < 0 := by omega
  refine Cal_in (ls := [.inr (.inr (.inl 59)), .inl (p : Int)]) rfl mna_18 mml_18 mhl_18 rfl rfl ?_
  by_cases hp1 : p < N
  · have e1 : ¬ (N : Int) ≤ (p : Int) := by omega
    have e2 : ¬ (150 : Int) ≤ (p : Int) := by omega
    have e3 := h2 p hp1
    simp (disch := first | with_reducible assumption | omega | exact ga_in _ _ _ | exact gg_in _ _ _ | (unfold InR; omega) | (unfold InL; omega) | (simp only [shC_0, shC_1, shC_2, shC_3, shC_4, shC_5, shC_6, shC_7, shC_8, shC_9, shC_10, shC_11, shC_12, shC_13, shC_14, shC_15, shC_30, shC_44, shC_29, shC_58, shC_59, shC_60, shC_61, shC_62, shC_63, shC_64, shC_65, shC_66, shC_67, shC_68, shC_69, shC_70, shL_2, shL_3, shL_4, shL_5, shL_6, shL_8, shL_10, shL_12, shL_14, shL_29, shL_58, shL_60, shL_62, shL_63, shL_65, shL_66, shL_67, shL_68, shL_69, shL_70]; first | done | omega)) only [q18_0, q18_1, q18_4, q18_5, q18_6, q18_9, q18_12, q18_13, q18_14, q18_17, q18_18, q18_21, q18_22, q18_25, q18_26, q18_27, q18_30, q18_31, shC_0, shC_1, shC_2, shC_3, shC_4, shC_5, shC_6, shC_7, shC_8, shC_9, shC_10, shC_11, shC_12, shC_13, shC_14, shC_15, shC_30, shC_44, shC_29, shC_58, shC_59, shC_60, shC_61, shC_62, shC_63, shC_64, shC_65, shC_66, shC_67, shC_68, shC_69, shC_70, shL_2, shL_3, shL_4, shL_5, shL_6, shL_8, shL_10, shL_12, shL_14, shL_29, shL_58, shL_60, shL_62, shL_63, shL_65, shL_66, shL_67, shL_68, shL_69, shL_70, shR_0_0, shR_0_1, shR_0_2, shR_0_3, shR_0_4, shR_0_5, shR_0_6, shR_0_7, shR_1_3, shR_1_4, shR_1_5, shR_1_6, shR_1_7, shR_1_8, shR_1_9, shR_1_10, shR_1_11, shR_7_2, shR_9_2, shR_11_2, shR_13_0, shR_59_0, shR_61_0, shR_61_1, shR_61_2, shR_64_0, shR_64_1, shR_64_2, shR_64_3, shR_64_4, shR_64_5, c150, h1, hp0, e1, e2, e3, pushR_I, pushR_L, pushR_R, pushR_V, InR_gg, InR_ga, InR_wr, InL_gl, InR_b, b01, b01_0, if_true, if_false, not_true_eq_false, not_false_eq_true, and_true, true_and, and_self, Sum.inl.injEq, one0, Bool.false_eq_true]
  · have e1 : (N : Int) ≤ (p : Int) := by omega
    have e3 := h3.2.2 p (by omega)
    simp (disch := first | with_reducible assumption | omega | exact ga_in _ _ _ | exact gg_in _ _ _ | (unfold InR; omega) | (unfold InL; omega) | (simp only [shC_0, shC_1, shC_2, shC_3, shC_4, shC_5, shC_6, shC_7, shC_8, shC_9, shC_10, shC_11, shC_12, shC_13, shC_14, shC_15, shC_30, shC_44, shC_29, shC_58, shC_59, shC_60, shC_61, shC_62, shC_63, shC_64, shC_65, shC_66, shC_67, shC_68, shC_69, shC_70, shL_2, shL_3, shL_4, shL_5, shL_6, shL_8, shL_10, shL_12, shL_14, shL_29, shL_58, shL_60, shL_62, shL_63, shL_65, shL_66, shL_67, shL_68, shL_69, shL_70]; first | done | omega)) only [q18_0, q18_1, q18_4, q18_5, q18_6, q18_9, q18_12, q18_13, q18_14, q18_17, q18_18, q18_21, q18_22, q18_25, q18_26, q18_27, q18_30, q18_31, shC_0, shC_1, shC_2, shC_3, shC_4, shC_5, shC_6, shC_7, shC_8, shC_9, shC_10, shC_11, shC_12, shC_13, shC_14, shC_15, shC_30, shC_44, shC_29, shC_58, shC_59, shC_60, shC_61, shC_62, shC_63, shC_64, shC_65, shC_66, shC_67, shC_68, shC_69, shC_70, shL_2, shL_3, shL_4, shL_5, shL_6, shL_8, shL_10, shL_12, shL_14, shL_29, shL_58, shL_60, shL_62, shL_63, shL_65, shL_66, shL_67, shL_68, shL_69, shL_70, shR_0_0, shR_0_1, shR_0_2, shR_0_3, shR_0_4, shR_0_5, shR_0_6, shR_0_7, shR_1_3, shR_1_4, shR_1_5, shR_1_6, shR_1_7, shR_1_8, shR_1_9, shR_1_10, shR_1_11, shR_7_2, shR_9_2, shR_11_2, shR_13_0, shR_59_0, shR_61_0, shR_61_1, shR_61_2, shR_64_0, shR_64_1, shR_64_2, shR_64_3, shR_64_4, shR_64_5, h1, hp0, e1, e3, pushR_I, pushR_L, pushR_R, pushR_V, InR_gg, InR_ga, InR_wr, InL_gl, InR_b, b01, b01_0, if_true, if_false, not_true_eq_false, not_false_eq_true, and_true, true_and, and_self, Sum.inl.injEq, one0, Bool.false_eq_true]
theorem k18 (h : TXC σ b N) (p : Nat) (hp : p ≤ 1000) : CalK (d + 1) 18 [.inr (.inr (.inl 59)), .inl (p : Int)] σ K = K (.inl (b p)) σ := CalK_eq (m18 h p hp)
theorem m19 {c : Int} (hc : InR c) : Cal (d + 1) 19 [.inl c] σ (.inl (if ltr c then 1 else 0)) σ := by
  refine Cal_in (ls := [.inl c]) rfl mna_19 mml_19 mhl_19 rfl rfl ?_
  unfold ltr
  by_cases h1 : c < 97
  · have e : ¬ (97 ≤ c ∧ c ≤ 122) := by omega
    simp (disch := first | with_reducible assumption | omega | exact ga_in _ _ _ | exact gg_in _ _ _ | (unfold InR; omega) | (unfold InL; omega) | (simp only [shC_0, shC_1, shC_2, shC_3, shC_4, shC_5, shC_6, shC_7, shC_8, shC_9, shC_10, shC_11, shC_12, shC_13, shC_14, shC_15, shC_30, shC_44, shC_29, shC_58, shC_59, shC_60, shC_61, shC_62, shC_63, shC_64, shC_65, shC_66, shC_67, shC_68, shC_69, shC_70, shL_2, shL_3, shL_4, shL_5, shL_6, shL_8, shL_10, shL_12, shL_14, shL_29, shL_58, shL_60, shL_62, shL_63, shL_65, shL_66, shL_67, shL_68, shL_69, shL_70]; first | done | omega)) only [q19_0, q19_1, q19_3, q19_6, q19_7, q19_9, q19_12, q19_13, q19_16, q19_17, h1, e, decide_false, pushR_I, pushR_L, pushR_R, pushR_V, InR_gg, InR_ga, InR_wr, InL_gl, InR_b, b01, b01_0, if_true, if_false, not_true_eq_false, not_false_eq_true, and_true, true_and, and_self, Sum.inl.injEq, one0, Bool.false_eq_true]
  · by_cases h2 : 122 < c
    · have e : ¬ (97 ≤ c ∧ c ≤ 122) := by omega
      simp (disch := first | with_reducible assumption | omega | exact ga_in _ _ _ | exact gg_in _ _ _ | (unfold InR; omega) | (unfold InL; omega) | (simp only [shC_0, shC_1, shC_2, shC_3, shC_4, shC_5, shC_6, shC_7, shC_8, shC_9, shC_10, shC_11, shC_12, shC_13, shC_14, shC_15, shC_30, shC_44, shC_29, shC_58, shC_59, shC_60, shC_61, shC_62, shC_63, shC_64, shC_65, shC_66, shC_67, shC_68, shC_69, shC_70, shL_2, shL_3, shL_4, shL_5, shL_6, shL_8, shL_10, shL_12, shL_14, shL_29, shL_58, shL_60, shL_62, shL_63, shL_65, shL_66, shL_67, shL_68, shL_69, shL_70]; first | done | omega)) only [q19_0, q19_1, q19_3, q19_6, q19_7, q19_9, q19_12, q19_13, q19_16, q19_17, h1, h2, e, decide_false, pushR_I, pushR_L, pushR_R, pushR_V, InR_gg, InR_ga, InR_wr, InL_gl, InR_b, b01, b01_0, if_true, if_false, not_true_eq_false, not_false_eq_true, and_true, true_and, and_self, Sum.inl.injEq, one0, Bool.false_eq_true]
    · have e : 97 ≤ c ∧ c ≤ 122 := by omega
      simp (disch := first | with_reducible assumption | omega | exact ga_in _ _ _ | exact gg_in _ _ _ | (unfold InR; omega) | (unfold InL; omega) | (simp only [shC_0, shC_1, shC_2, shC_3, shC_4, shC_5, shC_6, shC_7, shC_8, shC_9, shC_10, shC_11, shC_12, shC_13, shC_14, shC_15, shC_30, shC_44, shC_29, shC_58, shC_59, shC_60, shC_61, shC_62, shC_63, shC_64, shC_65, shC_66, shC_67, shC_68, shC_69, shC_70, shL_2, shL_3, shL_4, shL_5, shL_6, shL_8, shL_10, shL_12, shL_14, shL_29, shL_58, shL_60, shL_62, shL_63, shL_65, shL_66, shL_67, shL_68, shL_69, shL_70]; first | done | omega)) only [q19_0, q19_1, q19_3, q19_6, q19_7, q19_9, q19_12, q19_13, q19_16, q19_17, h1, h2, e, decide_true, pushR_I, pushR_L, pushR_R, pushR_V, InR_gg, InR_ga, InR_wr, InL_gl, InR_b, b01, b01_0, if_true, if_false, not_true_eq_false, not_false_eq_true, and_true, true_and, and_self, Sum.inl.injEq, one0, Bool.false_eq_true]
theorem k19 {c : Int} (hc : InR c) : CalK (d + 1) 19 [.inl c] σ K = K (.inl (if ltr c then 1 else 0)) σ := CalK_eq (m19 hc)
theorem m20 {c : Int} (hc : InR c) : Cal (d + 1) 20 [.inl c] σ (.inl (if fig c then 1 else 0)) σ := by
  refine Cal_in (ls := [.inl c]) rfl mna_20 mml_20 mhl_20 rfl rfl ?_
  unfold fig
  by_cases h1 : c < 48
  · have e : ¬ (48 ≤ c ∧ c ≤ 57) := by omega
    simp (disch := first | with_reducible assumption | omega | exact ga_in _ _ _ | exact gg_in _ _ _ | (unfold InR; omega) | (unfold InL; omega) | (simp only [shC_0, shC_1, shC_2, shC_3, shC_4, shC_5, shC_6, shC_7, shC_8, shC_9, shC_10, shC_11, shC_12, shC_13, shC_14, shC_15, shC_30, shC_44, shC_29, shC_58, shC_59, shC_60, shC_61, shC_62, shC_63, shC_64, shC_65, shC_66, shC_67, shC_68, shC_69, shC_70, shL_2, shL_3, shL_4, shL_5, shL_6, shL_8, shL_10, shL_12, shL_14, shL_29, shL_58, shL_60, shL_62, shL_63, shL_65, shL_66, shL_67, shL_68, shL_69, shL_70]; first | done | omega)) only [q20_0, q20_1, q20_3, q20_6, q20_7, q20_9, q20_12, q20_13, q20_16, q20_17, h1, e, decide_false, pushR_I, pushR_L, pushR_R, pushR_V, InR_gg, InR_ga, InR_wr, InL_gl, InR_b, b01, b01_0, if_true, if_false, not_true_eq_false, not_false_eq_true, and_true, true_and, and_self, Sum.inl.injEq, one0, Bool.false_eq_true]
  · by_cases h2 : 57 < c
    · have e : ¬ (48 ≤ c ∧ c ≤ 57) := by omega
      simp (disch := first | with_reducible assumption | omega | exact ga_in _ _ _ | exact gg_in _ _ _ | (unfold InR; omega) | (unfold InL; omega) | (simp only [shC_0, shC_1, shC_2, shC_3, shC_4, shC_5, shC_6, shC_7, shC_8, shC_9, shC_10, shC_11, shC_12, shC_13, shC_14, shC_15, shC_30, shC_44, shC_29, shC_58, shC_59, shC_60, shC_61, shC_62, shC_63, shC_64, shC_65, shC_66, shC_67, shC_68, shC_69, shC_70, shL_2, shL_3, shL_4, shL_5, shL_6, shL_8, shL_10, shL_12, shL_14, shL_29, shL_58, shL_60, shL_62, shL_63, shL_65, shL_66, shL_67, shL_68, shL_69, shL_70]; first | done | omega)) only [q20_0, q20_1, q20_3, q20_6, q20_7, q20_9, q20_12, q20_13, q20_16, q20_17, h1, h2, e, decide_false, pushR_I, pushR_L, pushR_R, pushR_V, InR_gg, InR_ga, InR_wr, InL_gl, InR_b, b01, b01_0, if_true, if_false, not_true_eq_false, not_false_eq_true, and_true, true_and, and_self, Sum.inl.injEq, one0, Bool.false_eq_true]
    · have e : 48 ≤ c ∧ c ≤ 57 := by omega
      simp (disch := first | with_reducible assumption | omega | exact ga_in _ _ _ | exact gg_in _ _ _ | (unfold InR; omega) | (unfold InL; omega) | (simp only [shC_0, shC_1, shC_2, shC_3, shC_4, shC_5, shC_6, shC_7, shC_8, shC_9, shC_10, shC_11, shC_12, shC_13, shC_14, shC_15, shC_30, shC_44, shC_29, shC_58, shC_59, shC_60, shC_61, shC_62, shC_63, shC_64, shC_65, shC_66, shC_67, shC_68, shC_69, shC_70, shL_2, shL_3, shL_4, shL_5, shL_6, shL_8, shL_10, shL_12, shL_14, shL_29, shL_58, shL_60, shL_62, shL_63, shL_65, shL_66, shL_67, shL_68, shL_69, shL_70]; first | done | omega)) only [q20_0, q20_1, q20_3, q20_6, q20_7, q20_9, q20_12, q20_13, q20_16, q20_17, h1, h2, e, decide_true, pushR_I, pushR_L, pushR_R, pushR_V, InR_gg, InR_ga, InR_wr, InL_gl, InR_b, b01, b01_0, if_true, if_false, not_true_eq_false, not_false_eq_true, and_true, true_and, and_self, Sum.inl.injEq, one0, Bool.false_eq_true]
theorem k20 {c : Int} (hc : InR c) : CalK (d + 1) 20 [.inl c] σ K = K (.inl (if fig c then 1 else 0)) σ := CalK_eq (m20 hc)
def S592 (a b : Nat) : Prop := a = 59 ∧ b = 2
theorem S592_59 {σ τ : SG} (h : SAM S592 σ τ) : SAM S59 σ τ := SAM_mono h (fun a b q => ⟨q.1, by have := q.2; omega⟩)
theorem l17a (h : TXC σ b N) {w1 : AV} : ∀ (k p : Nat) (χ : SG), p + k = N → SAM S592 σ χ → gg χ 59 2 = (p : Int) →
    (∀ χ', SAM S592 σ χ' → gg χ' 59 2 = (skF b k p : Int) → Wp none (d + 2) 17 37 [.inr (.inr (.inl 59)), w1] [] χ' Q) → Wp none (d + 2) 17 0 [.inr (.inr (.inl 59)), w1] [] χ Q := by
  have hN := h.2.2.1
  intro k
  induction k with
  | zero =>
    intro p χ hp hs h2 hq
    have h1 : gg χ 59 1 = (N : Int) := (TXC_same h (S592_59 hs)).1
    have e : (N : Int) ≤ (p : Int) := by omega
    simp (disch := first | with_reducible assumption | omega | exact ga_in _ _ _ | exact gg_in _ _ _ | (unfold InR; omega) | (unfold InL; omega) | (simp only [shC_0, shC_1, shC_2, shC_3, shC_4, shC_5, shC_6, shC_7, shC_8, shC_9, shC_10, shC_11, shC_12, shC_13, shC_14, shC_15, shC_30, shC_44, shC_29, shC_58, shC_59, shC_60, shC_61, shC_62, shC_63, shC_64, shC_65, shC_66, shC_67, shC_68, shC_69, shC_70, shL_2, shL_3, shL_4, shL_5, shL_6, shL_8, shL_10, shL_12, shL_14, shL_29, shL_58, shL_60, shL_62, shL_63, shL_65, shL_66, shL_67, shL_68, shL_69, shL_70]; first | done | omega)) only [q17_0, q17_1, q17_4, q17_5, q17_8, shC_0, shC_1, shC_2, shC_3, shC_4, shC_5, shC_6, shC_7, shC_8, shC_9, shC_10, shC_11, shC_12, shC_13, shC_14, shC_15, shC_30, shC_44, shC_29, shC_58, shC_59, shC_60, shC_61, shC_62, shC_63, shC_64, shC_65, shC_66, shC_67, shC_68, shC_69, shC_70, shL_2, shL_3, shL_4, shL_5, shL_6, shL_8, shL_10, shL_12, shL_14, shL_29, shL_58, shL_60, shL_62, shL_63, shL_65, shL_66, shL_67, shL_68, shL_69, shL_70, shR_0_0, shR_0_1, shR_0_2, shR_0_3, shR_0_4, shR_0_5, shR_0_6, shR_0_7, shR_1_3, shR_1_4, shR_1_5, shR_1_6, shR_1_7, shR_1_8, shR_1_9, shR_1_10, shR_1_11, shR_7_2, shR_9_2, shR_11_2, shR_13_0, shR_59_0, shR_61_0, shR_61_1, shR_61_2, shR_64_0, shR_64_1, shR_64_2, shR_64_3, shR_64_4, shR_64_5, h1, h2, e, pushR_I, pushR_L, pushR_R, pushR_V, InR_gg, InR_ga, InR_wr, InL_gl, InR_b, b01, b01_0, if_true, if_false, not_true_eq_false, not_false_eq_true, and_true, true_and, and_self, Sum.inl.injEq, one0, Bool.false_eq_true]
    exact hq χ hs h2
  | succ k ih =>
    intro p χ hp hs h2 hq
    have hT := TXC_same h (S592_59 hs)
    have h1 : gg χ 59 1 = (N : Int) := hT.1
    have e : ¬ (N : Int) ≤ (p : Int) := by omega
    have hr := b_r h.2.2 p
    simp only [skF] at hq
    by_cases c : b p = 32
    · rw [if_pos c] at hq
      simp (disch := first | with_reducible assumption | omega | exact ga_in _ _ _ | exact gg_in _ _ _ | (unfold InR; omega) | (unfold InL; omega) | (simp only [shC_0, shC_1, shC_2, shC_3, shC_4, shC_5, shC_6, shC_7, shC_8, shC_9, shC_10, shC_11, shC_12, shC_13, shC_14, shC_15, shC_30, shC_44, shC_29, shC_58, shC_59, shC_60, shC_61, shC_62, shC_63, shC_64, shC_65, shC_66, shC_67, shC_68, shC_69, shC_70, shL_2, shL_3, shL_4, shL_5, shL_6, shL_8, shL_10, shL_12, shL_14, shL_29, shL_58, shL_60, shL_62, shL_63, shL_65, shL_66, shL_67, shL_68, shL_69, shL_70]; first | done | omega)) only [q17_0, q17_1, q17_4, q17_5, q17_8, q17_11, q17_12, q17_13, q17_16, q17_19, q17_21, q17_24, q17_25, q17_26, q17_29, q17_30, q17_31, shC_0, shC_1, shC_2, shC_3, shC_4, shC_5, shC_6, shC_7, shC_8, shC_9, shC_10, shC_11, shC_12, shC_13, shC_14, shC_15, shC_30, shC_44, shC_29, shC_58, shC_59, shC_60, shC_61, shC_62, shC_63, shC_64, shC_65, shC_66, shC_67, shC_68, shC_69, shC_70, shL_2, shL_3, shL_4, shL_5, shL_6, shL_8, shL_10, shL_12, shL_14, shL_29, shL_58, shL_60, shL_62, shL_63, shL_65, shL_66, shL_67, shL_68, shL_69, shL_70, shR_0_0, shR_0_1, shR_0_2, shR_0_3, shR_0_4, shR_0_5, shR_0_6, shR_0_7, shR_1_3, shR_1_4, shR_1_5, shR_1_6, shR_1_7, shR_1_8, shR_1_9, shR_1_10, shR_1_11, shR_7_2, shR_9_2, shR_11_2, shR_13_0, shR_59_0, shR_61_0, shR_61_1, shR_61_2, shR_64_0, shR_64_1, shR_64_2, shR_64_3, shR_64_4, shR_64_5, h1, h2, e, k18 hT p (by omega), c, pushR_I, pushR_L, pushR_R, pushR_V, InR_gg, InR_ga, InR_wr, InL_gl, InR_b, b01, b01_0, if_true, if_false, not_true_eq_false, not_false_eq_true, and_true, true_and, and_self, Sum.inl.injEq, one0, Bool.false_eq_true]
      rw [q17_34]
      exact ih (p + 1) _ (by omega) (SAM_ug hs ⟨rfl, rfl⟩) (by rw [gg_ug_eq, wr_id ⟨by omega, by omega⟩]; rfl) hq
    · rw [if_neg c] at hq
      simp (disch := first | with_reducible assumption | omega | exact ga_in _ _ _ | exact gg_in _ _ _ | (unfold InR; omega) | (unfold InL; omega) | (simp only [shC_0, shC_1, shC_2, shC_3, shC_4, shC_5, shC_6, shC_7, shC_8, shC_9, shC_10, shC_11, shC_12, shC_13, shC_14, shC_15, shC_30, shC_44, shC_29, shC_58, shC_59, shC_60, shC_61, shC_62, shC_63, shC_64, shC_65, shC_66, shC_67, shC_68, shC_69, shC_70, shL_2, shL_3, shL_4, shL_5, shL_6, shL_8, shL_10, shL_12, shL_14, shL_29, shL_58, shL_60, shL_62, shL_63, shL_65, shL_66, shL_67, shL_68, shL_69, shL_70]; first | done | omega)) only [q17_0, q17_1, q17_4, q17_5, q17_8, q17_11, q17_12, q17_13, q17_16, q17_19, q17_21, q17_24, q17_25, q17_26, q17_29, q17_30, q17_31, shC_0, shC_1, shC_2, shC_3, shC_4, shC_5, shC_6, shC_7, shC_8, shC_9, shC_10, shC_11, shC_12, shC_13, shC_14, shC_15, shC_30, shC_44, shC_29, shC_58, shC_59, shC_60, shC_61, shC_62, shC_63, shC_64, shC_65, shC_66, shC_67, shC_68, shC_69, shC_70, shL_2, shL_3, shL_4, shL_5, shL_6, shL_8, shL_10, shL_12, shL_14, shL_29, shL_58, shL_60, shL_62, shL_63, shL_65, shL_66, shL_67, shL_68, shL_69, shL_70, shR_0_0, shR_0_1, shR_0_2, shR_0_3, shR_0_4, shR_0_5, shR_0_6, shR_0_7, shR_1_3, shR_1_4, shR_1_5, shR_1_6, shR_1_7, shR_1_8, shR_1_9, shR_1_10, shR_1_11, shR_7_2, shR_9_2, shR_11_2, shR_13_0, shR_59_0, shR_61_0, shR_61_1, shR_61_2, shR_64_0, shR_64_1, shR_64_2, shR_64_3, shR_64_4, shR_64_5, h1, h2, e, k18 hT p (by omega), c, pushR_I, pushR_L, pushR_R, pushR_V, InR_gg, InR_ga, InR_wr, InL_gl, InR_b, b01, b01_0, if_true, if_false, not_true_eq_false, not_false_eq_true, and_true, true_and, and_self, Sum.inl.injEq, one0, Bool.false_eq_true]
      exact hq χ hs h2
theorem l17b (h : TXC σ b N) {w1 : AV} : ∀ (k p : Nat) (χ : SG), p + k = N → SAM S592 σ χ → gg χ 59 2 = (p : Int) →
    (∀ χ', SAM S592 σ χ' → gg χ' 59 2 = (rnF ltr b k p : Int) → Wp none (d + 2) 17 239 [.inr (.inr (.inl 59)), w1] [] χ' Q) → Wp none (d + 2) 17 83 [.inr (.inr (.inl 59)), w1] [] χ Q := by
  have hN := h.2.2.1
  intro k
  induction k with
  | zero =>
    intro p χ hp hs h2 hq
    have h1 : gg χ 59 1 = (N : Int) := (TXC_same h (S592_59 hs)).1
    have e : (N : Int) ≤ (p : Int) := by omega
    simp (disch := first | with_reducible assumption | omega | exact ga_in _ _ _ | exact gg_in _ _ _ | (unfold InR; omega) | (unfold InL; omega) | (simp only [shC_0, shC_1, shC_2, shC_3, shC_4, shC_5, shC_6, shC_7, shC_8, shC_9, shC_10, shC_11, shC_12, shC_13, shC_14, shC_15, shC_30, shC_44, shC_29, shC_58, shC_59, shC_60, shC_61, shC_62, shC_63, shC_64, shC_65, shC_66, shC_67, shC_68, shC_69, shC_70, shL_2, shL_3, shL_4, shL_5, shL_6, shL_8, shL_10, shL_12, shL_14, shL_29, shL_58, shL_60, shL_62, shL_63, shL_65, shL_66, shL_67, shL_68, shL_69, shL_70]; first | done | omega)) only [q17_83, q17_84, q17_87, q17_88, q17_91, shC_0, shC_1, shC_2, shC_3, shC_4, shC_5, shC_6, shC_7, shC_8, shC_9, shC_10, shC_11, shC_12, shC_13, shC_14, shC_15, shC_30, shC_44, shC_29, shC_58, shC_59, shC_60, shC_61, shC_62, shC_63, shC_64, shC_65, shC_66, shC_67, shC_68, shC_69, shC_70, shL_2, shL_3, shL_4, shL_5, shL_6, shL_8, shL_10, shL_12, shL_14, shL_29, shL_58, shL_60, shL_62, shL_63, shL_65, shL_66, shL_67, shL_68, shL_69, shL_70, shR_0_0, shR_0_1, shR_0_2, shR_0_3, shR_0_4, shR_0_5, shR_0_6, shR_0_7, shR_1_3, shR_1_4, shR_1_5, shR_1_6, shR_1_7, shR_1_8, shR_1_9, shR_1_10, shR_1_11, shR_7_2, shR_9_2, shR_11_2, shR_13_0, shR_59_0, shR_61_0, shR_61_1, shR_61_2, shR_64_0, shR_64_1, shR_64_2, shR_64_3, shR_64_4, shR_64_5, h1, h2, e, pushR_I, pushR_L, pushR_R, pushR_V, InR_gg, InR_ga, InR_wr, InL_gl, InR_b, b01, b01_0, if_true, if_false, not_true_eq_false, not_false_eq_true, and_true, true_and, and_self, Sum.inl.injEq, one0, Bool.false_eq_true]
    exact hq χ hs h2
  | succ k ih =>
    intro p χ hp hs h2 hq
    have hT := TXC_same h (S592_59 hs)
    have h1 : gg χ 59 1 = (N : Int) := hT.1
    have e : ¬ (N : Int) ≤ (p : Int) := by omega
    have hr := b_r h.2.2 p
    simp only [rnF] at hq
    by_cases c : ltr (b p) = true
    · rw [if_pos c] at hq
      simp (disch := first | with_reducible assumption | omega | exact ga_in _ _ _ | exact gg_in _ _ _ | (unfold InR; omega) | (unfold InL; omega) | (simp only [shC_0, shC_1, shC_2, shC_3, shC_4, shC_5, shC_6, shC_7, shC_8, shC_9, shC_10, shC_11, shC_12, shC_13, shC_14, shC_15, shC_30, shC_44, shC_29, shC_58, shC_59, shC_60, shC_61, shC_62, shC_63, shC_64, shC_65, shC_66, shC_67, shC_68, shC_69, shC_70, shL_2, shL_3, shL_4, shL_5, shL_6, shL_8, shL_10, shL_12, shL_14, shL_29, shL_58, shL_60, shL_62, shL_63, shL_65, shL_66, shL_67, shL_68, shL_69, shL_70]; first | done | omega)) only [q17_83, q17_84, q17_87, q17_88, q17_91, q17_94, q17_95, q17_96, q17_99, q17_102, q17_105, q17_108, q17_109, q17_110, q17_113, q17_114, q17_115, shC_0, shC_1, shC_2, shC_3, shC_4, shC_5, shC_6, shC_7, shC_8, shC_9, shC_10, shC_11, shC_12, shC_13, shC_14, shC_15, shC_30, shC_44, shC_29, shC_58, shC_59, shC_60, shC_61, shC_62, shC_63, shC_64, shC_65, shC_66, shC_67, shC_68, shC_69, shC_70, shL_2, shL_3, shL_4, shL_5, shL_6, shL_8, shL_10, shL_12, shL_14, shL_29, shL_58, shL_60, shL_62, shL_63, shL_65, shL_66, shL_67, shL_68, shL_69, shL_70, shR_0_0, shR_0_1, shR_0_2, shR_0_3, shR_0_4, shR_0_5, shR_0_6, shR_0_7, shR_1_3, shR_1_4, shR_1_5, shR_1_6, shR_1_7, shR_1_8, shR_1_9, shR_1_10, shR_1_11, shR_7_2, shR_9_2, shR_11_2, shR_13_0, shR_59_0, shR_61_0, shR_61_1, shR_61_2, shR_64_0, shR_64_1, shR_64_2, shR_64_3, shR_64_4, shR_64_5, h1, h2, e, k18 hT p (by omega), k19, c, pushR_I, pushR_L, pushR_R, pushR_V, InR_gg, InR_ga, InR_wr, InL_gl, InR_b, b01, b01_0, if_true, if_false, not_true_eq_false, not_false_eq_true, and_true, true_and, and_self, Sum.inl.injEq, one0, Bool.false_eq_true]
      rw [q17_118]
      exact ih (p + 1) _ (by omega) (SAM_ug hs ⟨rfl, rfl⟩) (by rw [gg_ug_eq, wr_id ⟨by omega, by omega⟩]; rfl) hq
    · rw [if_neg c] at hq
      simp (disch := first | with_reducible assumption | omega | exact ga_in _ _ _ | exact gg_in _ _ _ | (unfold InR; omega) | (unfold InL; omega) | (simp only [shC_0, shC_1, shC_2, shC_3, shC_4, shC_5, shC_6, shC_7, shC_8, shC_9, shC_10, shC_11, shC_12, shC_13, shC_14, shC_15, shC_30, shC_44, shC_29, shC_58, shC_59, shC_60, shC_61, shC_62, shC_63, shC_64, shC_65, shC_66, shC_67, shC_68, shC_69, shC_70, shL_2, shL_3, shL_4, shL_5, shL_6, shL_8, shL_10, shL_12, shL_14, shL_29, shL_58, shL_60, shL_62, shL_63, shL_65, shL_66, shL_67, shL_68, shL_69, shL_70]; first | done | omega)) only [q17_83, q17_84, q17_87, q17_88, q17_91, q17_94, q17_95, q17_96, q17_99, q17_102, q17_105, q17_108, q17_109, q17_110, q17_113, q17_114, q17_115, shC_0, shC_1, shC_2, shC_3, shC_4, shC_5, shC_6, shC_7, shC_8, shC_9, shC_10, shC_11, shC_12, shC_13, shC_14, shC_15, shC_30, shC_44, shC_29, shC_58, shC_59, shC_60, shC_61, shC_62, shC_63, shC_64, shC_65, shC_66, shC_67, shC_68, shC_69, shC_70, shL_2, shL_3, shL_4, shL_5, shL_6, shL_8, shL_10, shL_12, shL_14, shL_29, shL_58, shL_60, shL_62, shL_63, shL_65, shL_66, shL_67, shL_68, shL_69, shL_70, shR_0_0, shR_0_1, shR_0_2, shR_0_3, shR_0_4, shR_0_5, shR_0_6, shR_0_7, shR_1_3, shR_1_4, shR_1_5, shR_1_6, shR_1_7, shR_1_8, shR_1_9, shR_1_10, shR_1_11, shR_7_2, shR_9_2, shR_11_2, shR_13_0, shR_59_0, shR_61_0, shR_61_1, shR_61_2, shR_64_0, shR_64_1, shR_64_2, shR_64_3, shR_64_4, shR_64_5, h1, h2, e, k18 hT p (by omega), k19, c, pushR_I, pushR_L, pushR_R, pushR_V, InR_gg, InR_ga, InR_wr, InL_gl, InR_b, b01, b01_0, if_true, if_false, not_true_eq_false, not_false_eq_true, and_true, true_and, and_self, Sum.inl.injEq, one0, Bool.false_eq_true]
      exact hq χ hs h2
/-- the number that the figures give, in the class's words -/
def vlF (b : Nat → Int) : Nat → Nat → Int → Int
  | 0, _, v => v
  | k + 1, p, v => if fig (b p) then vlF b k (p + 1) (wr (10 * v + b p - 48)) else v
def S5925 (a b : Nat) : Prop := a = 59 ∧ (b = 2 ∨ b = 5)
theorem S5925_59 {σ τ : SG} (h : SAM S5925 σ τ) : SAM S59 σ τ := SAM_mono h (fun a b q => ⟨q.1, by have := q.2; omega⟩)
theorem l17c (h : TXC σ b N) {w1 : AV} : ∀ (k p : Nat) (v : Int) (χ : SG), p + k = N → SAM S5925 σ χ → gg χ 59 2 = (p : Int) → gg χ 59 5 = v →
    (∀ χ', SAM S5925 σ χ' → gg χ' 59 2 = (rnF fig b k p : Int) → gg χ' 59 5 = vlF b k p v → Wp none (d + 2) 17 189 [.inr (.inr (.inl 59)), w1] [] χ' Q) → Wp none (d + 2) 17 128 [.inr (.inr (.inl 59)), w1] [] χ Q := by
  have hN := h.2.2.1
  intro k
  induction k with
  | zero =>
    intro p v χ hp hs h2 h5 hq
    have h1 : gg χ 59 1 = (N : Int) := (TXC_same h (S5925_59 hs)).1
    have e : (N : Int) ≤ (p : Int) := by omega
    simp (disch := first | with_reducible assumption | omega | exact ga_in _ _ _ | exact gg_in _ _ _ | (unfold InR; omega) | (unfold InL; omega) | (simp only [shC_0, shC_1, shC_2, shC_3, shC_4, shC_5, shC_6, shC_7, shC_8, shC_9, shC_10, shC_11, shC_12, shC_13, shC_14, shC_15, shC_30, shC_44, shC_29, shC_58, shC_59, shC_60, shC_61, shC_62, shC_63, shC_64, shC_65, shC_66, shC_67, shC_68, shC_69, shC_70, shL_2, shL_3, shL_4, shL_5, shL_6, shL_8, shL_10, shL_12, shL_14, shL_29, shL_58, shL_60, shL_62, shL_63, shL_65, shL_66, shL_67, shL_68, shL_69, shL_70]; first | done | omega)) only [q17_128, q17_129, q17_132, q17_133, q17_136, shC_0, shC_1, shC_2, shC_3, shC_4, shC_5, shC_6, shC_7, shC_8, shC_9, shC_10, shC_11, shC_12, shC_13, shC_14, shC_15, shC_30, shC_44, shC_29, shC_58, shC_59, shC_60, shC_61, shC_62, shC_63, shC_64, shC_65, shC_66, shC_67, shC_68, shC_69, shC_70, shL_2, shL_3, shL_4, shL_5, shL_6, shL_8, shL_10, shL_12, shL_14, shL_29, shL_58, shL_60, shL_62, shL_63, shL_65, shL_66, shL_67, shL_68, shL_69, shL_70, shR_0_0, shR_0_1, shR_0_2, shR_0_3, shR_0_4, shR_0_5, shR_0_6, shR_0_7, shR_1_3, shR_1_4, shR_1_5, shR_1_6, shR_1_7, shR_1_8, shR_1_9, shR_1_10, shR_1_11, shR_7_2, shR_9_2, shR_11_2, shR_13_0, shR_59_0, shR_61_0, shR_61_1, shR_61_2, shR_64_0, shR_64_1, shR_64_2, shR_64_3, shR_64_4, shR_64_5, h1, h2, e, pushR_I, pushR_L, pushR_R, pushR_V, InR_gg, InR_ga, InR_wr, InL_gl, InR_b, b01, b01_0, if_true, if_false, not_true_eq_false, not_false_eq_true, and_true, true_and, and_self, Sum.inl.injEq, one0, Bool.false_eq_true]
    exact hq χ hs h2 h5
  | succ k ih =>
    intro p v χ hp hs h2 h5 hq
    have hT := TXC_same h (S5925_59 hs)
    have h1 : gg χ 59 1 = (N : Int) := hT.1
    have e : ¬ (N : Int) ≤ (p : Int) := by omega
    have hr := b_r h.2.2 p
    simp only [rnF, vlF] at hq
    by_cases c : fig (b p) = true
    · rw [if_pos c, if_pos c] at hq
      have f2 : gg (ug χ 59 5 (10 * v + b p - 48)) 59 2 = (p : Int) := by rw [gg_ug_ne _ _ _ _ _ _ (by omega), h2]
      simp (disch := first | with_reducible assumption | omega | exact ga_in _ _ _ | exact gg_in _ _ _ | (unfold InR; omega) | (unfold InL; omega) | (simp only [shC_0, shC_1, shC_2, shC_3, shC_4, shC_5, shC_6, shC_7, shC_8, shC_9, shC_10, shC_11, shC_12, shC_13, shC_14, shC_15, shC_30, shC_44, shC_29, shC_58, shC_59, shC_60, shC_61, shC_62, shC_63, shC_64, shC_65, shC_66, shC_67, shC_68, shC_69, shC_70, shL_2, shL_3, shL_4, shL_5, shL_6, shL_8, shL_10, shL_12, shL_14, shL_29, shL_58, shL_60, shL_62, shL_63, shL_65, shL_66, shL_67, shL_68, shL_69, shL_70]; first | done | omega)) only [q17_128, q17_129, q17_132, q17_133, q17_136, q17_139, q17_140, q17_141, q17_144, q17_147, q17_150, q17_153, q17_154, q17_156, q17_157, q17_160, q17_161, q17_162, q17_163, q17_166, q17_169, q17_170, q17_172, q17_173, q17_176, q17_177, q17_178, q17_181, q17_182, q17_183, shC_0, shC_1, shC_2, shC_3, shC_4, shC_5, shC_6, shC_7, shC_8, shC_9, shC_10, shC_11, shC_12, shC_13, shC_14, shC_15, shC_30, shC_44, shC_29, shC_58, shC_59, shC_60, shC_61, shC_62, shC_63, shC_64, shC_65, shC_66, shC_67, shC_68, shC_69, shC_70, shL_2, shL_3, shL_4, shL_5, shL_6, shL_8, shL_10, shL_12, shL_14, shL_29, shL_58, shL_60, shL_62, shL_63, shL_65, shL_66, shL_67, shL_68, shL_69, shL_70, shR_0_0, shR_0_1, shR_0_2, shR_0_3, shR_0_4, shR_0_5, shR_0_6, shR_0_7, shR_1_3, shR_1_4, shR_1_5, shR_1_6, shR_1_7, shR_1_8, shR_1_9, shR_1_10, shR_1_11, shR_7_2, shR_9_2, shR_11_2, shR_13_0, shR_59_0, shR_61_0, shR_61_1, shR_61_2, shR_64_0, shR_64_1, shR_64_2, shR_64_3, shR_64_4, shR_64_5, h1, h2, h5, f2, e, k18 hT p (by omega), k20, c, pushR_I, pushR_L, pushR_R, pushR_V, InR_gg, InR_ga, InR_wr, InL_gl, InR_b, b01, b01_0, if_true, if_false, not_true_eq_false, not_false_eq_true, and_true, true_and, and_self, Sum.inl.injEq, one0, Bool.false_eq_true]
      rw [q17_186]
      exact ih (p + 1) _ _ (by omega) (SAM_ug (SAM_ug hs ⟨rfl, Or.inr rfl⟩) ⟨rfl, Or.inl rfl⟩) (by rw [gg_ug_eq, wr_id ⟨by omega, by omega⟩]; rfl) (by rw [gg_ug_ne _ _ _ _ _ _ (by omega), gg_ug_eq]) hq
    · rw [if_neg c, if_neg c] at hq
      simp (disch := first | with_reducible assumption | omega | exact ga_in _ _ _ | exact gg_in _ _ _ | (unfold InR; omega) | (unfold InL; omega) | (simp only [shC_0, shC_1, shC_2, shC_3, shC_4, shC_5, shC_6, shC_7, shC_8, shC_9, shC_10, shC_11, shC_12, shC_13, shC_14, shC_15, shC_30, shC_44, shC_29, shC_58, shC_59, shC_60, shC_61, shC_62, shC_63, shC_64, shC_65, shC_66, shC_67, shC_68, shC_69, shC_70, shL_2, shL_3, shL_4, shL_5, shL_6, shL_8, shL_10, shL_12, shL_14, shL_29, shL_58, shL_60, shL_62, shL_63, shL_65, shL_66, shL_67, shL_68, shL_69, shL_70]; first | done | omega)) only [q17_128, q17_129, q17_132, q17_133, q17_136, q17_139, q17_140, q17_141, q17_144, q17_147, q17_150, q17_153, q17_154, q17_156, q17_157, q17_160, q17_161, q17_162, q17_163, q17_166, q17_169, q17_170, q17_172, q17_173, q17_176, q17_177, q17_178, q17_181, q17_182, q17_183, shC_0, shC_1, shC_2, shC_3, shC_4, shC_5, shC_6, shC_7, shC_8, shC_9, shC_10, shC_11, shC_12, shC_13, shC_14, shC_15, shC_30, shC_44, shC_29, shC_58, shC_59, shC_60, shC_61, shC_62, shC_63, shC_64, shC_65, shC_66, shC_67, shC_68, shC_69, shC_70, shL_2, shL_3, shL_4, shL_5, shL_6, shL_8, shL_10, shL_12, shL_14, shL_29, shL_58, shL_60, shL_62, shL_63, shL_65, shL_66, shL_67, shL_68, shL_69, shL_70, shR_0_0, shR_0_1, shR_0_2, shR_0_3, shR_0_4, shR_0_5, shR_0_6, shR_0_7, shR_1_3, shR_1_4, shR_1_5, shR_1_6, shR_1_7, shR_1_8, shR_1_9, shR_1_10, shR_1_11, shR_7_2, shR_9_2, shR_11_2, shR_13_0, shR_59_0, shR_61_0, shR_61_1, shR_61_2, shR_64_0, shR_64_1, shR_64_2, shR_64_3, shR_64_4, shR_64_5, h1, h2, e, k18 hT p (by omega), k20, c, pushR_I, pushR_L, pushR_R, pushR_V, InR_gg, InR_ga, InR_wr, InL_gl, InR_b, b01, b01_0, if_true, if_false, not_true_eq_false, not_false_eq_true, and_true, true_and, and_self, Sum.inl.injEq, one0, Bool.false_eq_true]
      exact hq χ hs h2 h5
theorem vl_tV (h : TXb b N) {s : Nat} (hs : s < N) (hf : fig (b s) = true) (h2 : rnF fig b (N - s) s - s ≤ 2) : vlF b (N - s) s 0 = if rnF fig b (N - s) s - s = 1 then b s - 48 else 10 * (b s - 48) + b (s + 1) - 48 := by
  have hf1 : 48 ≤ b s ∧ b s ≤ 57 := of_decide_eq_true hf
  have w1 : wr (10 * 0 + b s - 48) = b s - 48 := by rw [wr_id ⟨by omega, by omega⟩]; omega
  have e : N - s = (N - s - 1) + 1 := by omega
  rw [e] at h2 ⊢
  simp only [rnF, vlF, hf, if_true, w1] at h2 ⊢
  generalize hk : N - s - 1 = k at h2 ⊢
  cases k with
  | zero =>
    simp only [rnF, vlF] at h2 ⊢
    exact (if_pos (show s + 1 - s = 1 by omega)).symm
  | succ k =>
    simp only [rnF, vlF] at h2 ⊢
    by_cases c : fig (b (s + 1)) = true
    · have hf2 : 48 ≤ b (s + 1) ∧ b (s + 1) ≤ 57 := of_decide_eq_true c
      have w2 : wr (10 * (b s - 48) + b (s + 1) - 48) = 10 * (b s - 48) + b (s + 1) - 48 := wr_id ⟨by omega, by omega⟩
      simp only [c, if_true, w2] at h2 ⊢
      have h3 := rnF_b (t := fig) (b := b) k (s + 1 + 1)
      rw [if_neg (by omega)]
      cases k with
      | zero => rfl
      | succ k =>
        simp only [rnF, vlF] at h2 ⊢
        by_cases c2 : fig (b (s + 1 + 1)) = true
        · simp only [c2, if_true] at h2
          have h4 := rnF_b (t := fig) (b := b) k (s + 1 + 1 + 1)
          omega
        · rw [if_neg c2]
    · simp only [c, if_false, Bool.false_eq_true] at h2 ⊢
      rw [if_pos (by omega)]
theorem m17 (h : TXC σ b N) {p : Nat} (hp : p ≤ N) (h2 : gg σ 59 2 = (p : Int)) : CalE (d + 3) 17 [.inr (.inr (.inl 59))] σ (fun r τ => r = aU ∧ SAM S59 σ τ ∧ RDC τ b N p) := by
  have hN := h.2.2.1
  have hb := h.2.2
  refine Cal_ex (ls := [.inr (.inr (.inl 59)), aU]) rfl mna_17 mml_17 mhl_17 rfl rfl ?_
  refine l17a (d := d) h (N - p) p σ (by omega) (SAM_refl _ _) h2 (fun χ hs hp2 => ?_)
  change gg χ 59 2 = (tS b N p : Int) at hp2
  have hts := tS_b (b := b) hp
  have hT := TXC_same h (S592_59 hs)
  have hr := b_r hb (tS b N p)
  generalize hsd : tS b N p = s at hp2 hts hr
  have f2 : gg (ug χ 59 3 (s : Int)) 59 2 = (s : Int) := by rw [gg_ug_ne _ _ _ _ _ _ (by omega), hp2]
  have f2b : gg (ug (ug χ 59 3 (s : Int)) 59 5 0) 59 2 = (s : Int) := by rw [gg_ug_ne _ _ _ _ _ _ (by omega), f2]
  have hT2 : TXC (ug (ug χ 59 3 (s : Int)) 59 5 0) b N := TXC_same hT (SAM_ug (SAM_ug (SAM_refl _ _) ⟨rfl, by omega⟩) ⟨rfl, by omega⟩)
  have hs2 : SAM S59 σ (ug (ug χ 59 3 (s : Int)) 59 5 0) := SAM_ug (SAM_ug (S592_59 hs) ⟨rfl, by omega⟩) ⟨rfl, by omega⟩
  have f3 : gg (ug (ug χ 59 3 (s : Int)) 59 5 0) 59 3 = (s : Int) := by rw [gg_ug_ne _ _ _ _ _ _ (by omega), gg_ug_eq, wr_id ⟨by omega, by omega⟩]
  have f5 : gg (ug (ug χ 59 3 (s : Int)) 59 5 0) 59 5 = 0 := gg_ug_eq _ _ _ _
  by_cases c0 : b s < 0
  · have c0' : ¬ 0 ≤ b s := by omega
    simp (disch := first | with_reducible assumption | omega | exact ga_in _ _ _ | exact gg_in _ _ _ | (unfold InR; omega) | (unfold InL; omega) | (simp only [shC_0, shC_1, shC_2, shC_3, shC_4, shC_5, shC_6, shC_7, shC_8, shC_9, shC_10, shC_11, shC_12, shC_13, shC_14, shC_15, shC_30, shC_44, shC_29, shC_58, shC_59, shC_60, shC_61, shC_62, shC_63, shC_64, shC_65, shC_66, shC_67, shC_68, shC_69, shC_70, shL_2, shL_3, shL_4, shL_5, shL_6, shL_8, shL_10, shL_12, shL_14, shL_29, shL_58, shL_60, shL_62, shL_63, shL_65, shL_66, shL_67, shL_68, shL_69, shL_70]; first | done | omega)) only [q17_37, q17_38, q17_39, q17_42, q17_45, q17_46, q17_47, q17_50, q17_51, q17_52, q17_55, q17_58, q17_59, q17_60, q17_63, q17_64, q17_65, q17_68, q17_239, shC_0, shC_1, shC_2, shC_3, shC_4, shC_5, shC_6, shC_7, shC_8, shC_9, shC_10, shC_11, shC_12, shC_13, shC_14, shC_15, shC_30, shC_44, shC_29, shC_58, shC_59, shC_60, shC_61, shC_62, shC_63, shC_64, shC_65, shC_66, shC_67, shC_68, shC_69, shC_70, shL_2, shL_3, shL_4, shL_5, shL_6, shL_8, shL_10, shL_12, shL_14, shL_29, shL_58, shL_60, shL_62, shL_63, shL_65, shL_66, shL_67, shL_68, shL_69, shL_70, shR_0_0, shR_0_1, shR_0_2, shR_0_3, shR_0_4, shR_0_5, shR_0_6, shR_0_7, shR_1_3, shR_1_4, shR_1_5, shR_1_6, shR_1_7, shR_1_8, shR_1_9, shR_1_10, shR_1_11, shR_7_2, shR_9_2, shR_11_2, shR_13_0, shR_59_0, shR_61_0, shR_61_1, shR_61_2, shR_64_0, shR_64_1, shR_64_2, shR_64_3, shR_64_4, shR_64_5, hp2, f2b, k18 hT2 s (by omega), c0', pushR_I, pushR_L, pushR_R, pushR_V, InR_gg, InR_ga, InR_wr, InL_gl, InR_b, b01, b01_0, if_true, if_false, not_true_eq_false, not_false_eq_true, and_true, true_and, and_self, Sum.inl.injEq, one0, Bool.false_eq_true]
    have kK : tK b N p = 0 := by unfold tK; rw [hsd, if_pos c0]
    have kE : tE b N p = s := by unfold tE; rw [hsd, if_pos c0]
    refine ⟨SAM_ug hs2 ⟨rfl, by omega⟩, ?_, ?_, ?_, fun q => absurd (kK.symm.trans q) (by decide)⟩
    · rw [gg_ug_ne _ _ _ _ _ _ (by omega), f2b, kE]
    · rw [gg_ug_ne _ _ _ _ _ _ (by omega), f3, hsd]
    · rw [gg_ug_eq, kK]; rfl
  · have c0' : 0 ≤ b s := by omega
    by_cases c1 : ltr (b s) = true
    · simp (disch := first | with_reducible assumption | omega | exact ga_in _ _ _ | exact gg_in _ _ _ | (unfold InR; omega) | (unfold InL; omega) | (simp only [shC_0, shC_1, shC_2, shC_3, shC_4, shC_5, shC_6, shC_7, shC_8, shC_9, shC_10, shC_11, shC_12, shC_13, shC_14, shC_15, shC_30, shC_44, shC_29, shC_58, shC_59, shC_60, shC_61, shC_62, shC_63, shC_64, shC_65, shC_66, shC_67, shC_68, shC_69, shC_70, shL_2, shL_3, shL_4, shL_5, shL_6, shL_8, shL_10, shL_12, shL_14, shL_29, shL_58, shL_60, shL_62, shL_63, shL_65, shL_66, shL_67, shL_68, shL_69, shL_70]; first | done | omega)) only [q17_37, q17_38, q17_39, q17_42, q17_45, q17_46, q17_47, q17_50, q17_51, q17_52, q17_55, q17_58, q17_59, q17_60, q17_63, q17_64, q17_65, q17_68, q17_71, q17_72, q17_75, q17_78, q17_79, q17_80, shC_0, shC_1, shC_2, shC_3, shC_4, shC_5, shC_6, shC_7, shC_8, shC_9, shC_10, shC_11, shC_12, shC_13, shC_14, shC_15, shC_30, shC_44, shC_29, shC_58, shC_59, shC_60, shC_61, shC_62, shC_63, shC_64, shC_65, shC_66, shC_67, shC_68, shC_69, shC_70, shL_2, shL_3, shL_4, shL_5, shL_6, shL_8, shL_10, shL_12, shL_14, shL_29, shL_58, shL_60, shL_62, shL_63, shL_65, shL_66, shL_67, shL_68, shL_69, shL_70, shR_0_0, shR_0_1, shR_0_2, shR_0_3, shR_0_4, shR_0_5, shR_0_6, shR_0_7, shR_1_3, shR_1_4, shR_1_5, shR_1_6, shR_1_7, shR_1_8, shR_1_9, shR_1_10, shR_1_11, shR_7_2, shR_9_2, shR_11_2, shR_13_0, shR_59_0, shR_61_0, shR_61_1, shR_61_2, shR_64_0, shR_64_1, shR_64_2, shR_64_3, shR_64_4, shR_64_5, hp2, f2b, k18 hT2 s (by omega), k19, c0', c1, pushR_I, pushR_L, pushR_R, pushR_V, InR_gg, InR_ga, InR_wr, InL_gl, InR_b, b01, b01_0, if_true, if_false, not_true_eq_false, not_false_eq_true, and_true, true_and, and_self, Sum.inl.injEq, one0, Bool.false_eq_true]
      have kK : tK b N p = 1 := by unfold tK; rw [hsd, if_neg c0, if_pos c1]
      have kE : tE b N p = rnF ltr b (N - s) s := by unfold tE; rw [hsd, if_neg c0, if_pos c1]
      generalize hυ : (ug (ug (ug χ 59 3 (s : Int)) 59 5 0) 59 4 1) = υ
      have hsυ : SAM S59 σ υ := by rw [← hυ]; exact SAM_ug hs2 ⟨rfl, by omega⟩
      have f2v : gg υ 59 2 = (s : Int) := by rw [← hυ, gg_ug_ne _ _ _ _ _ _ (by omega), f2b]
      have f3v : gg υ 59 3 = (s : Int) := by rw [← hυ, gg_ug_ne _ _ _ _ _ _ (by omega), f3]
      have f4v : gg υ 59 4 = 1 := by rw [← hυ, gg_ug_eq]; rfl
      refine l17b (d := d) (σ := υ) (TXC_same h hsυ) (N - s) s υ (by omega) (SAM_refl _ _) f2v (fun χ' hx hx2 => ?_)
      simp (disch := first | with_reducible assumption | omega | exact ga_in _ _ _ | exact gg_in _ _ _ | (unfold InR; omega) | (unfold InL; omega) | (simp only [shC_0, shC_1, shC_2, shC_3, shC_4, shC_5, shC_6, shC_7, shC_8, shC_9, shC_10, shC_11, shC_12, shC_13, shC_14, shC_15, shC_30, shC_44, shC_29, shC_58, shC_59, shC_60, shC_61, shC_62, shC_63, shC_64, shC_65, shC_66, shC_67, shC_68, shC_69, shC_70, shL_2, shL_3, shL_4, shL_5, shL_6, shL_8, shL_10, shL_12, shL_14, shL_29, shL_58, shL_60, shL_62, shL_63, shL_65, shL_66, shL_67, shL_68, shL_69, shL_70]; first | done | omega)) only [q17_239, pushR_I, pushR_L, pushR_R, pushR_V, InR_gg, InR_ga, InR_wr, InL_gl, InR_b, b01, b01_0, if_true, if_false, not_true_eq_false, not_false_eq_true, and_true, true_and, and_self, Sum.inl.injEq, one0, Bool.false_eq_true]
      refine ⟨SAM_trans hsυ (S592_59 hx), by rw [hx2, kE], by rw [hx.1 _ _ (fun q => by have := q.2; omega), f3v, hsd], by rw [hx.1 _ _ (fun q => by have := q.2; omega), f4v, kK], fun q => absurd (kK.symm.trans q) (by decide)⟩
    · by_cases c2 : fig (b s) = true
      · simp (disch := first | with_reducible assumption | omega | exact ga_in _ _ _ | exact gg_in _ _ _ | (unfold InR; omega) | (unfold InL; omega) | (simp only [shC_0, shC_1, shC_2, shC_3, shC_4, shC_5, shC_6, shC_7, shC_8, shC_9, shC_10, shC_11, shC_12, shC_13, shC_14, shC_15, shC_30, shC_44, shC_29, shC_58, shC_59, shC_60, shC_61, shC_62, shC_63, shC_64, shC_65, shC_66, shC_67, shC_68, shC_69, shC_70, shL_2, shL_3, shL_4, shL_5, shL_6, shL_8, shL_10, shL_12, shL_14, shL_29, shL_58, shL_60, shL_62, shL_63, shL_65, shL_66, shL_67, shL_68, shL_69, shL_70]; first | done | omega)) only [q17_37, q17_38, q17_39, q17_42, q17_45, q17_46, q17_47, q17_50, q17_51, q17_52, q17_55, q17_58, q17_59, q17_60, q17_63, q17_64, q17_65, q17_68, q17_71, q17_72, q17_75, q17_78, q17_79, q17_80, q17_83, q17_84, q17_87, q17_88, q17_91, q17_94, q17_95, q17_96, q17_99, q17_102, q17_105, q17_108, q17_109, q17_110, q17_113, q17_114, q17_115, q17_118, q17_121, q17_122, q17_125, shC_0, shC_1, shC_2, shC_3, shC_4, shC_5, shC_6, shC_7, shC_8, shC_9, shC_10, shC_11, shC_12, shC_13, shC_14, shC_15, shC_30, shC_44, shC_29, shC_58, shC_59, shC_60, shC_61, shC_62, shC_63, shC_64, shC_65, shC_66, shC_67, shC_68, shC_69, shC_70, shL_2, shL_3, shL_4, shL_5, shL_6, shL_8, shL_10, shL_12, shL_14, shL_29, shL_58, shL_60, shL_62, shL_63, shL_65, shL_66, shL_67, shL_68, shL_69, shL_70, shR_0_0, shR_0_1, shR_0_2, shR_0_3, shR_0_4, shR_0_5, shR_0_6, shR_0_7, shR_1_3, shR_1_4, shR_1_5, shR_1_6, shR_1_7, shR_1_8, shR_1_9, shR_1_10, shR_1_11, shR_7_2, shR_9_2, shR_11_2, shR_13_0, shR_59_0, shR_61_0, shR_61_1, shR_61_2, shR_64_0, shR_64_1, shR_64_2, shR_64_3, shR_64_4, shR_64_5, hp2, f2b, k18 hT2 s (by omega), k19, k20, c0', c1, c2, pushR_I, pushR_L, pushR_R, pushR_V, InR_gg, InR_ga, InR_wr, InL_gl, InR_b, b01, b01_0, if_true, if_false, not_true_eq_false, not_false_eq_true, and_true, true_and, and_self, Sum.inl.injEq, one0, Bool.false_eq_true]
        have hsN : s < N := by
          by_cases q : s < N
          · exact q
          · have := hb.2.2 s (by omega)
            omega
        have kE : tE b N p = rnF fig b (N - s) s := by unfold tE; rw [hsd, if_neg c0, if_neg c1, if_pos c2]
        have hrn := rnF_b (t := fig) (b := b) (N - s) s
        have kV := vl_tV hb hsN c2
        refine l17c (d := d) (σ := ug (ug χ 59 3 (s : Int)) 59 5 0) hT2 (N - s) s 0 _ (by omega) (SAM_refl _ _) f2b f5 (fun χ' hx hx2 hx5 => ?_)
        have f3' : gg χ' 59 3 = (s : Int) := by rw [hx.1 _ _ (fun q => by have := q.2; omega), f3]
        have hsx := SAM_trans hs2 (S5925_59 hx)
        by_cases c3 : rnF fig b (N - s) s - s ≤ 2
        · have c3' : ¬ (2 : Int) < (rnF fig b (N - s) s : Int) - (s : Int) := by omega
          have kK : tK b N p = 2 := by unfold tK; rw [kE, hsd, if_neg c0, if_neg c1, if_pos c2, if_pos c3]
          simp (disch := first | with_reducible assumption | omega | exact ga_in _ _ _ | exact gg_in _ _ _ | (unfold InR; omega) | (unfold InL; omega) | (simp only [shC_0, shC_1, shC_2, shC_3, shC_4, shC_5, shC_6, shC_7, shC_8, shC_9, shC_10, shC_11, shC_12, shC_13, shC_14, shC_15, shC_30, shC_44, shC_29, shC_58, shC_59, shC_60, shC_61, shC_62, shC_63, shC_64, shC_65, shC_66, shC_67, shC_68, shC_69, shC_70, shL_2, shL_3, shL_4, shL_5, shL_6, shL_8, shL_10, shL_12, shL_14, shL_29, shL_58, shL_60, shL_62, shL_63, shL_65, shL_66, shL_67, shL_68, shL_69, shL_70]; first | done | omega)) only [q17_189, q17_190, q17_191, q17_194, q17_195, q17_198, q17_199, q17_200, q17_203, q17_204, q17_207, q17_208, q17_211, q17_239, shC_0, shC_1, shC_2, shC_3, shC_4, shC_5, shC_6, shC_7, shC_8, shC_9, shC_10, shC_11, shC_12, shC_13, shC_14, shC_15, shC_30, shC_44, shC_29, shC_58, shC_59, shC_60, shC_61, shC_62, shC_63, shC_64, shC_65, shC_66, shC_67, shC_68, shC_69, shC_70, shL_2, shL_3, shL_4, shL_5, shL_6, shL_8, shL_10, shL_12, shL_14, shL_29, shL_58, shL_60, shL_62, shL_63, shL_65, shL_66, shL_67, shL_68, shL_69, shL_70, shR_0_0, shR_0_1, shR_0_2, shR_0_3, shR_0_4, shR_0_5, shR_0_6, shR_0_7, shR_1_3, shR_1_4, shR_1_5, shR_1_6, shR_1_7, shR_1_8, shR_1_9, shR_1_10, shR_1_11, shR_7_2, shR_9_2, shR_11_2, shR_13_0, shR_59_0, shR_61_0, shR_61_1, shR_61_2, shR_64_0, shR_64_1, shR_64_2, shR_64_3, shR_64_4, shR_64_5, hx2, f3', c3', pushR_I, pushR_L, pushR_R, pushR_V, InR_gg, InR_ga, InR_wr, InL_gl, InR_b, b01, b01_0, if_true, if_false, not_true_eq_false, not_false_eq_true, and_true, true_and, and_self, Sum.inl.injEq, one0, Bool.false_eq_true]
          refine ⟨SAM_ug hsx ⟨rfl, by omega⟩, ?_, ?_, ?_, fun _ => ?_⟩
          · rw [gg_ug_ne _ _ _ _ _ _ (by omega), hx2, kE]
          · rw [gg_ug_ne _ _ _ _ _ _ (by omega), f3', hsd]
          · rw [gg_ug_eq, kK]; rfl
          · rw [gg_ug_ne _ _ _ _ _ _ (by omega), hx5, kV c3]
            unfold tV
            rw [kE, hsd]
        · have c3' : (2 : Int) < (rnF fig b (N - s) s : Int) - (s : Int) := by omega
          have kK : tK b N p = 4 := by unfold tK; rw [kE, hsd, if_neg c0, if_neg c1, if_pos c2, if_neg c3]
          simp (disch := first | with_reducible assumption | omega | exact ga_in _ _ _ | exact gg_in _ _ _ | (unfold InR; omega) | (unfold InL; omega) | (simp only [shC_0, shC_1, shC_2, shC_3, shC_4, shC_5, shC_6, shC_7, shC_8, shC_9, shC_10, shC_11, shC_12, shC_13, shC_14, shC_15, shC_30, shC_44, shC_29, shC_58, shC_59, shC_60, shC_61, shC_62, shC_63, shC_64, shC_65, shC_66, shC_67, shC_68, shC_69, shC_70, shL_2, shL_3, shL_4, shL_5, shL_6, shL_8, shL_10, shL_12, shL_14, shL_29, shL_58, shL_60, shL_62, shL_63, shL_65, shL_66, shL_67, shL_68, shL_69, shL_70]; first | done | omega)) only [q17_189, q17_190, q17_191, q17_194, q17_195, q17_198, q17_199, q17_200, q17_203, q17_204, q17_207, q17_208, q17_211, q17_239, shC_0, shC_1, shC_2, shC_3, shC_4, shC_5, shC_6, shC_7, shC_8, shC_9, shC_10, shC_11, shC_12, shC_13, shC_14, shC_15, shC_30, shC_44, shC_29, shC_58, shC_59, shC_60, shC_61, shC_62, shC_63, shC_64, shC_65, shC_66, shC_67, shC_68, shC_69, shC_70, shL_2, shL_3, shL_4, shL_5, shL_6, shL_8, shL_10, shL_12, shL_14, shL_29, shL_58, shL_60, shL_62, shL_63, shL_65, shL_66, shL_67, shL_68, shL_69, shL_70, shR_0_0, shR_0_1, shR_0_2, shR_0_3, shR_0_4, shR_0_5, shR_0_6, shR_0_7, shR_1_3, shR_1_4, shR_1_5, shR_1_6, shR_1_7, shR_1_8, shR_1_9, shR_1_10, shR_1_11, shR_7_2, shR_9_2, shR_11_2, shR_13_0, shR_59_0, shR_61_0, shR_61_1, shR_61_2, shR_64_0, shR_64_1, shR_64_2, shR_64_3, shR_64_4, shR_64_5, hx2, f3', c3', pushR_I, pushR_L, pushR_R, pushR_V, InR_gg, InR_ga, InR_wr, InL_gl, InR_b, b01, b01_0, if_true, if_false, not_true_eq_false, not_false_eq_true, and_true, true_and, and_self, Sum.inl.injEq, one0, Bool.false_eq_true]
          refine ⟨SAM_ug hsx ⟨rfl, by omega⟩, ?_, ?_, ?_, fun q => absurd (kK.symm.trans q) (by decide)⟩
          · rw [gg_ug_ne _ _ _ _ _ _ (by omega), hx2, kE]
          · rw [gg_ug_ne _ _ _ _ _ _ (by omega), f3', hsd]
          · rw [gg_ug_eq, kK]; rfl
      · have kE : tE b N p = s + 1 := by unfold tE; rw [hsd, if_neg c0, if_neg c1, if_neg c2]
        have fe : ∀ z, gg (ug (ug (ug χ 59 3 (s : Int)) 59 5 0) 59 4 z) 59 2 = (s : Int) := fun z => by rw [gg_ug_ne _ _ _ _ _ _ (by omega), f2b]
        by_cases c3 : b s = 59
        · have kK : tK b N p = 3 := by unfold tK; rw [hsd, if_neg c0, if_neg c1, if_neg c2, if_pos c3]
          simp (disch := first | with_reducible assumption | omega | exact ga_in _ _ _ | exact gg_in _ _ _ | (unfold InR; omega) | (unfold InL; omega) | (simp only [shC_0, shC_1, shC_2, shC_3, shC_4, shC_5, shC_6, shC_7, shC_8, shC_9, shC_10, shC_11, shC_12, shC_13, shC_14, shC_15, shC_30, shC_44, shC_29, shC_58, shC_59, shC_60, shC_61, shC_62, shC_63, shC_64, shC_65, shC_66, shC_67, shC_68, shC_69, shC_70, shL_2, shL_3, shL_4, shL_5, shL_6, shL_8, shL_10, shL_12, shL_14, shL_29, shL_58, shL_60, shL_62, shL_63, shL_65, shL_66, shL_67, shL_68, shL_69, shL_70]; first | done | omega)) only [q17_37, q17_38, q17_39, q17_42, q17_45, q17_46, q17_47, q17_50, q17_51, q17_52, q17_55, q17_58, q17_59, q17_60, q17_63, q17_64, q17_65, q17_68, q17_71, q17_72, q17_75, q17_78, q17_79, q17_80, q17_83, q17_84, q17_87, q17_88, q17_91, q17_94, q17_95, q17_96, q17_99, q17_102, q17_105, q17_108, q17_109, q17_110, q17_113, q17_114, q17_115, q17_118, q17_121, q17_122, q17_125, q17_214, q17_215, q17_216, q17_218, q17_221, q17_222, q17_225, q17_226, q17_229, q17_230, q17_231, q17_234, q17_235, q17_236, q17_239, shC_0, shC_1, shC_2, shC_3, shC_4, shC_5, shC_6, shC_7, shC_8, shC_9, shC_10, shC_11, shC_12, shC_13, shC_14, shC_15, shC_30, shC_44, shC_29, shC_58, shC_59, shC_60, shC_61, shC_62, shC_63, shC_64, shC_65, shC_66, shC_67, shC_68, shC_69, shC_70, shL_2, shL_3, shL_4, shL_5, shL_6, shL_8, shL_10, shL_12, shL_14, shL_29, shL_58, shL_60, shL_62, shL_63, shL_65, shL_66, shL_67, shL_68, shL_69, shL_70, shR_0_0, shR_0_1, shR_0_2, shR_0_3, shR_0_4, shR_0_5, shR_0_6, shR_0_7, shR_1_3, shR_1_4, shR_1_5, shR_1_6, shR_1_7, shR_1_8, shR_1_9, shR_1_10, shR_1_11, shR_7_2, shR_9_2, shR_11_2, shR_13_0, shR_59_0, shR_61_0, shR_61_1, shR_61_2, shR_64_0, shR_64_1, shR_64_2, shR_64_3, shR_64_4, shR_64_5, hp2, f2b, fe, k18 hT2 s (by omega), k19, k20, c0', c1, c2, c3, pushR_I, pushR_L, pushR_R, pushR_V, InR_gg, InR_ga, InR_wr, InL_gl, InR_b, b01, b01_0, if_true, if_false, not_true_eq_false, not_false_eq_true, and_true, true_and, and_self, Sum.inl.injEq, one0, Bool.false_eq_true]
          all_goals first | omega | skip
          refine ⟨SAM_ug (SAM_ug hs2 ⟨rfl, by omega⟩) ⟨rfl, by omega⟩, ?_, ?_, ?_, fun q => absurd (kK.symm.trans q) (by decide)⟩
          · rw [gg_ug_eq, kE, wr_id ⟨by omega, by omega⟩]; rfl
          · rw [gg_ug_ne _ _ _ _ _ _ (by omega), gg_ug_ne _ _ _ _ _ _ (by omega), f3, hsd]
          · rw [gg_ug_ne _ _ _ _ _ _ (by omega), gg_ug_eq, kK]; rfl
        · have kK : tK b N p = 4 := by unfold tK; rw [hsd, if_neg c0, if_neg c1, if_neg c2, if_neg c3]
          simp (disch := first | with_reducible assumption | omega | exact ga_in _ _ _ | exact gg_in _ _ _ | (unfold InR; omega) | (unfold InL; omega) | (simp only [shC_0, shC_1, shC_2, shC_3, shC_4, shC_5, shC_6, shC_7, shC_8, shC_9, shC_10, shC_11, shC_12, shC_13, shC_14, shC_15, shC_30, shC_44, shC_29, shC_58, shC_59, shC_60, shC_61, shC_62, shC_63, shC_64, shC_65, shC_66, shC_67, shC_68, shC_69, shC_70, shL_2, shL_3, shL_4, shL_5, shL_6, shL_8, shL_10, shL_12, shL_14, shL_29, shL_58, shL_60, shL_62, shL_63, shL_65, shL_66, shL_67, shL_68, shL_69, shL_70]; first | done | omega)) only [q17_37, q17_38, q17_39, q17_42, q17_45, q17_46, q17_47, q17_50, q17_51, q17_52, q17_55, q17_58, q17_59, q17_60, q17_63, q17_64, q17_65, q17_68, q17_71, q17_72, q17_75, q17_78, q17_79, q17_80, q17_83, q17_84, q17_87, q17_88, q17_91, q17_94, q17_95, q17_96, q17_99, q17_102, q17_105, q17_108, q17_109, q17_110, q17_113, q17_114, q17_115, q17_118, q17_121, q17_122, q17_125, q17_214, q17_215, q17_216, q17_218, q17_221, q17_222, q17_225, q17_226, q17_229, q17_230, q17_231, q17_234, q17_235, q17_236, q17_239, shC_0, shC_1, shC_2, shC_3, shC_4, shC_5, shC_6, shC_7, shC_8, shC_9, shC_10, shC_11, shC_12, shC_13, shC_14, shC_15, shC_30, shC_44, shC_29, shC_58, shC_59, shC_60, shC_61, shC_62, shC_63, shC_64, shC_65, shC_66, shC_67, shC_68, shC_69, shC_70, shL_2, shL_3, shL_4, shL_5, shL_6, shL_8, shL_10, shL_12, shL_14, shL_29, shL_58, shL_60, shL_62, shL_63, shL_65, shL_66, shL_67, shL_68, shL_69, shL_70, shR_0_0, shR_0_1, shR_0_2, shR_0_3, shR_0_4, shR_0_5, shR_0_6, shR_0_7, shR_1_3, shR_1_4, shR_1_5, shR_1_6, shR_1_7, shR_1_8, shR_1_9, shR_1_10, shR_1_11, shR_7_2, shR_9_2, shR_11_2, shR_13_0, shR_59_0, shR_61_0, shR_61_1, shR_61_2, shR_64_0, shR_64_1, shR_64_2, shR_64_3, shR_64_4, shR_64_5, hp2, f2b, fe, k18 hT2 s (by omega), k19, k20, c0', c1, c2, c3, pushR_I, pushR_L, pushR_R, pushR_V, InR_gg, InR_ga, InR_wr, InL_gl, InR_b, b01, b01_0, if_true, if_false, not_true_eq_false, not_false_eq_true, and_true, true_and, and_self, Sum.inl.injEq, one0, Bool.false_eq_true]
          refine ⟨SAM_ug (SAM_ug hs2 ⟨rfl, by omega⟩) ⟨rfl, by omega⟩, ?_, ?_, ?_, fun q => absurd (kK.symm.trans q) (by decide)⟩
          · rw [gg_ug_eq, kE, wr_id ⟨by omega, by omega⟩]; rfl
          · rw [gg_ug_ne _ _ _ _ _ _ (by omega), gg_ug_ne _ _ _ _ _ _ (by omega), f3, hsd]
          · rw [gg_ug_ne _ _ _ _ _ _ (by omega), gg_ug_eq, kK]; rfl
end STEPC
