-- the reference steps over tokens; words by their numbers
def vH (b : Nat → Int) (s : Nat) : Nat → Int
  | 0 => 0
  | n + 1 => vH b s n * 32 + b (s + n) - 96
def cdF (b : Nat → Int) (s : Nat) : Nat → Nat → Int → Int
  | 0, _, v => v
  | k + 1, p, v => if ltr (b p) then cdF b s k (p + 1) (if (p : Int) - (s : Int) < 6 then wr (v * 32 + b p - 96) else -1) else v
def tW (b : Nat → Int) (N p : Nat) : Int := cdF b (tS b N p) (N - tS b N p) (tS b N p) 0
def S71 (a b : Nat) : Prop := a = 71 ∧ 10 ≤ b ∧ b ≤ 14
def TXM (σ : SG) (b : Nat → Int) (N : Nat) : Prop := gg σ 71 9 = (N : Int) ∧ (∀ p : Nat, p < N → ga σ 78 (p : Int) = b p) ∧ TXb b N
/-- the reference's reader holds the token at p -/
def RDM (σ : SG) (b : Nat → Int) (N p : Nat) : Prop := gg σ 71 10 = (tE b N p : Int) ∧ gg σ 71 11 = (tS b N p : Int) ∧ gg σ 71 12 = tK b N p ∧ (tK b N p = 2 → gg σ 71 13 = tV b N p) ∧ (tK b N p = 1 → gg σ 71 13 = tW b N p)
section STEPM
variable {d : Nat} {σ : SG} {b : Nat → Int} {N : Nat} {K : AV → SG → Prop} {Q : AV → SG → Prop}
theorem TXM_same {τ : SG} (h : TXM σ b N) (hs : SAM S71 σ τ) : TXM τ b N :=
  ⟨by rw [hs.1 _ _ (fun q => by have := q.2.1; omega), h.1], fun p hp => (hs.1 78 _ (fun q => by have := q.1; omega)).trans (h.2.1 p hp), h.2.2⟩
theorem m145 (h : TXM σ b N) (p : Nat) (hp : p ≤ 1000) : Cal (d + 1) 145 [.inr (.inr (.inl 71)), .inl (p : Int)] σ (.inl (b p)) σ := by
  obtain ⟨h1, h2, h3⟩ := h
  have hN := h3.1
  have hr := b_r h3 p
  have c150 : ((150 : Nat) : Int) = 150 := rfl
  refine Cal_in (ls := [.inr (.inr (.inl 71)), .inl (p : Int)]) rfl mna_145 mml_145 mhl_145 rfl rfl ?_
  by_cases hp1 : p < N
  · have e1 : ¬ (N : Int) ≤ (p : Int) := by omega
    have e3 := h2 p hp1
    simp (disch := first | with_reducible assumption | omega | exact ga_in _ _ _ | exact gg_in _ _ _ | (unfold InR; omega) | (unfold InL; omega) | (simp only [shC_71, shC_72, shC_73, shC_74, shC_75, shC_76, shC_77, shC_78, shC_79, shL_72, shL_73, shL_74, shL_75, shL_76, shL_77, shL_78, shL_79]; first | done | omega)) only [q145_0, q145_1, q145_2, q145_5, q145_8, q145_9, q145_12, q145_13, q145_14, q145_17, q145_18, shC_71, shC_72, shC_73, shC_74, shC_75, shC_76, shC_77, shC_78, shC_79, shL_72, shL_73, shL_74, shL_75, shL_76, shL_77, shL_78, shL_79, shR_71_0, shR_71_1, shR_71_2, shR_71_3, shR_71_4, shR_71_5, shR_71_8, shR_71_15, c150, h1, e1, e3, pushR_I, pushR_L, pushR_R, pushR_V, InR_gg, InR_ga, InR_wr, InL_gl, InR_b, b01, b01_0, if_true, if_false, not_true_eq_false, not_false_eq_true, and_true, true_and, and_self, Sum.inl.injEq, one0, Bool.false_eq_true]
  · have e1 : (N : Int) ≤ (p : Int) := by omega
    have e3 := h3.2.2 p (by omega)
    simp (disch := first | with_reducible assumption | omega | exact ga_in _ _ _ | exact gg_in _ _ _ | (unfold InR; omega) | (unfold InL; omega) | (simp only [shC_71, shC_72, shC_73, shC_74, shC_75, shC_76, shC_77, shC_78, shC_79, shL_72, shL_73, shL_74, shL_75, shL_76, shL_77, shL_78, shL_79]; first | done | omega)) only [q145_0, q145_1, q145_2, q145_5, q145_8, q145_9, q145_12, q145_13, q145_14, q145_17, q145_18, shC_71, shC_72, shC_73, shC_74, shC_75, shC_76, shC_77, shC_78, shC_79, shL_72, shL_73, shL_74, shL_75, shL_76, shL_77, shL_78, shL_79, shR_71_0, shR_71_1, shR_71_2, shR_71_3, shR_71_4, shR_71_5, shR_71_8, shR_71_15, h1, e1, e3, pushR_I, pushR_L, pushR_R, pushR_V, InR_gg, InR_ga, InR_wr, InL_gl, InR_b, b01, b01_0, if_true, if_false, not_true_eq_false, not_false_eq_true, and_true, true_and, and_self, Sum.inl.injEq, one0, Bool.false_eq_true]
theorem k145 (h : TXM σ b N) (p : Nat) (hp : p ≤ 1000) : CalK (d + 1) 145 [.inr (.inr (.inl 71)), .inl (p : Int)] σ K = K (.inl (b p)) σ := CalK_eq (m145 h p hp)
def S710 (a b : Nat) : Prop := a = 71 ∧ b = 10
def S7103 (a b : Nat) : Prop := a = 71 ∧ (b = 10 ∨ b = 13)
theorem S710_71 {σ τ : SG} (h : SAM S710 σ τ) : SAM S71 σ τ := SAM_mono h (fun a b q => ⟨q.1, by have := q.2; omega, by have := q.2; omega⟩)
theorem S7103_71 {σ τ : SG} (h : SAM S7103 σ τ) : SAM S71 σ τ := SAM_mono h (fun a b q => ⟨q.1, by have := q.2; omega, by have := q.2; omega⟩)
theorem ltr_N (h : TXb b N) {t : Int → Bool} (ht : t (-1) = false) {p : Nat} (hp : t (b p) = true) : p < N := by
  by_cases q : p < N
  · exact q
  · rw [h.2.2 p (by omega), ht] at hp
    cases hp
theorem l147a (h : TXM σ b N) {w1 : AV} : ∀ (k p : Nat) (χ : SG), p + k = N → SAM S710 σ χ → gg χ 71 10 = (p : Int) →
    (∀ χ', SAM S710 σ χ' → gg χ' 71 10 = (skF b k p : Int) → Wp none (d + 2) 147 26 [.inr (.inr (.inl 71)), w1] [] χ' Q) → Wp none (d + 2) 147 0 [.inr (.inr (.inl 71)), w1] [] χ Q := by
  have hN := h.2.2.1
  intro k
  induction k with
  | zero =>
    intro p χ hp hs h2 hq
    have hT := TXM_same h (S710_71 hs)
    have hr := h.2.2.2.2 p (by omega)
    have c : ¬ b p = 32 := by rw [hr]; omega
    have hrr := b_r h.2.2 p
    simp (disch := first | with_reducible assumption | omega | exact ga_in _ _ _ | exact gg_in _ _ _ | (unfold InR; omega) | (unfold InL; omega) | (simp only [shC_71, shC_72, shC_73, shC_74, shC_75, shC_76, shC_77, shC_78, shC_79, shL_72, shL_73, shL_74, shL_75, shL_76, shL_77, shL_78, shL_79]; first | done | omega)) only [q147_0, q147_1, q147_2, q147_5, q147_8, q147_10, q147_13, q147_14, q147_15, q147_18, q147_19, q147_20, shC_71, shC_72, shC_73, shC_74, shC_75, shC_76, shC_77, shC_78, shC_79, shL_72, shL_73, shL_74, shL_75, shL_76, shL_77, shL_78, shL_79, shR_71_0, shR_71_1, shR_71_2, shR_71_3, shR_71_4, shR_71_5, shR_71_8, shR_71_15, h2, k145 hT p (by omega), c, pushR_I, pushR_L, pushR_R, pushR_V, InR_gg, InR_ga, InR_wr, InL_gl, InR_b, b01, b01_0, if_true, if_false, not_true_eq_false, not_false_eq_true, and_true, true_and, and_self, Sum.inl.injEq, one0, Bool.false_eq_true]
    exact hq χ hs h2
  | succ k ih =>
    intro p χ hp hs h2 hq
    have hT := TXM_same h (S710_71 hs)
    have hr := b_r h.2.2 p
    simp only [skF] at hq
    by_cases c : b p = 32
    · rw [if_pos c] at hq
      simp (disch := first | with_reducible assumption | omega | exact ga_in _ _ _ | exact gg_in _ _ _ | (unfold InR; omega) | (unfold InL; omega) | (simp only [shC_71, shC_72, shC_73, shC_74, shC_75, shC_76, shC_77, shC_78, shC_79, shL_72, shL_73, shL_74, shL_75, shL_76, shL_77, shL_78, shL_79]; first | done | omega)) only [q147_0, q147_1, q147_2, q147_5, q147_8, q147_10, q147_13, q147_14, q147_15, q147_18, q147_19, q147_20, shC_71, shC_72, shC_73, shC_74, shC_75, shC_76, shC_77, shC_78, shC_79, shL_72, shL_73, shL_74, shL_75, shL_76, shL_77, shL_78, shL_79, shR_71_0, shR_71_1, shR_71_2, shR_71_3, shR_71_4, shR_71_5, shR_71_8, shR_71_15, h2, k145 hT p (by omega), c, pushR_I, pushR_L, pushR_R, pushR_V, InR_gg, InR_ga, InR_wr, InL_gl, InR_b, b01, b01_0, if_true, if_false, not_true_eq_false, not_false_eq_true, and_true, true_and, and_self, Sum.inl.injEq, one0, Bool.false_eq_true]
      rw [q147_23]
      exact ih (p + 1) _ (by omega) (SAM_ug hs ⟨rfl, rfl⟩) (by rw [gg_ug_eq, wr_id ⟨by omega, by omega⟩]; rfl) hq
    · rw [if_neg c] at hq
      simp (disch := first | with_reducible assumption | omega | exact ga_in _ _ _ | exact gg_in _ _ _ | (unfold InR; omega) | (unfold InL; omega) | (simp only [shC_71, shC_72, shC_73, shC_74, shC_75, shC_76, shC_77, shC_78, shC_79, shL_72, shL_73, shL_74, shL_75, shL_76, shL_77, shL_78, shL_79]; first | done | omega)) only [q147_0, q147_1, q147_2, q147_5, q147_8, q147_10, q147_13, q147_14, q147_15, q147_18, q147_19, q147_20, shC_71, shC_72, shC_73, shC_74, shC_75, shC_76, shC_77, shC_78, shC_79, shL_72, shL_73, shL_74, shL_75, shL_76, shL_77, shL_78, shL_79, shR_71_0, shR_71_1, shR_71_2, shR_71_3, shR_71_4, shR_71_5, shR_71_8, shR_71_15, h2, k145 hT p (by omega), c, pushR_I, pushR_L, pushR_R, pushR_V, InR_gg, InR_ga, InR_wr, InL_gl, InR_b, b01, b01_0, if_true, if_false, not_true_eq_false, not_false_eq_true, and_true, true_and, and_self, Sum.inl.injEq, one0, Bool.false_eq_true]
      exact hq χ hs h2
theorem lt_97 {c : Int} : (97 ≤ c ∧ c ≤ 122) = (ltr c = true) := by unfold ltr; simp
theorem fg_48 {c : Int} : (48 ≤ c ∧ c ≤ 57) = (fig c = true) := by unfold fig; simp
theorem l147b (h : TXM σ b N) {w1 : AV} {s : Nat} : ∀ (k p : Nat) (v : Int) (χ : SG), p + k = N → s ≤ p → SAM S7103 σ χ → gg χ 71 10 = (p : Int) → gg χ 71 13 = v → gg χ 71 11 = (s : Int) →
    (∀ χ', SAM S7103 σ χ' → gg χ' 71 10 = (rnF ltr b k p : Int) → gg χ' 71 13 = cdF b s k p v → Wp none (d + 2) 147 143 [.inr (.inr (.inl 71)), w1] [] χ' Q) → Wp none (d + 2) 147 71 [.inr (.inr (.inl 71)), w1] [] χ Q := by
  have hN := h.2.2.1
  intro k
  induction k with
  | zero =>
    intro p v χ hp hsp hs h2 h3 h4 hq
    have hT := TXM_same h (S7103_71 hs)
    have hr := h.2.2.2.2 p (by omega)
    have c : ¬ ltr (b p) = true := by rw [hr]; decide
    have hrr := b_r h.2.2 p
    simp (disch := first | with_reducible assumption | omega | exact ga_in _ _ _ | exact gg_in _ _ _ | (unfold InR; omega) | (unfold InL; omega) | (simp only [shC_71, shC_72, shC_73, shC_74, shC_75, shC_76, shC_77, shC_78, shC_79, shL_72, shL_73, shL_74, shL_75, shL_76, shL_77, shL_78, shL_79]; first | done | omega)) only [q147_71, q147_72, q147_73, q147_76, q147_79, q147_81, q147_83, q147_86, shC_71, shC_72, shC_73, shC_74, shC_75, shC_76, shC_77, shC_78, shC_79, shL_72, shL_73, shL_74, shL_75, shL_76, shL_77, shL_78, shL_79, shR_71_0, shR_71_1, shR_71_2, shR_71_3, shR_71_4, shR_71_5, shR_71_8, shR_71_15, h2, k145 hT p (by omega), k116, lt_97, c, pushR_I, pushR_L, pushR_R, pushR_V, InR_gg, InR_ga, InR_wr, InL_gl, InR_b, b01, b01_0, if_true, if_false, not_true_eq_false, not_false_eq_true, and_true, true_and, and_self, Sum.inl.injEq, one0, Bool.false_eq_true]
    exact hq χ hs h2 h3
  | succ k ih =>
    intro p v χ hp hsp hs h2 h3 h4 hq
    have hT := TXM_same h (S7103_71 hs)
    have hr := b_r h.2.2 p
    simp only [rnF, cdF] at hq
    by_cases c : ltr (b p) = true
    · rw [if_pos c, if_pos c] at hq
      by_cases c6 : (p : Int) - (s : Int) < 6
      · have c6' : ¬ 6 ≤ (p : Int) - (s : Int) := by omega
        have f2 : gg (ug χ 71 13 (v * 32 + b p - 96)) 71 10 = (p : Int) := by rw [gg_ug_ne _ _ _ _ _ _ (by omega), h2]
        rw [if_pos c6] at hq
        simp (disch := first | with_reducible assumption | omega | exact ga_in _ _ _ | exact gg_in _ _ _ | (unfold InR; omega) | (unfold InL; omega) | (simp only [shC_71, shC_72, shC_73, shC_74, shC_75, shC_76, shC_77, shC_78, shC_79, shL_72, shL_73, shL_74, shL_75, shL_76, shL_77, shL_78, shL_79]; first | done | omega)) only [q147_71, q147_72, q147_73, q147_76, q147_79, q147_81, q147_83, q147_86, q147_89, q147_90, q147_91, q147_94, q147_95, q147_98, q147_99, q147_101, q147_104, q147_105, q147_108, q147_110, q147_111, q147_112, q147_113, q147_116, q147_119, q147_120, q147_122, q147_123, q147_126, q147_127, q147_130, q147_131, q147_132, q147_135, q147_136, q147_137, shC_71, shC_72, shC_73, shC_74, shC_75, shC_76, shC_77, shC_78, shC_79, shL_72, shL_73, shL_74, shL_75, shL_76, shL_77, shL_78, shL_79, shR_71_0, shR_71_1, shR_71_2, shR_71_3, shR_71_4, shR_71_5, shR_71_8, shR_71_15, h2, h3, h4, f2, k145 hT p (by omega), k116, lt_97, c, c6', pushR_I, pushR_L, pushR_R, pushR_V, InR_gg, InR_ga, InR_wr, InL_gl, InR_b, b01, b01_0, if_true, if_false, not_true_eq_false, not_false_eq_true, and_true, true_and, and_self, Sum.inl.injEq, one0, Bool.false_eq_true]
        rw [q147_140]
        exact ih (p + 1) _ _ (by omega) (by omega) (SAM_ug (SAM_ug hs ⟨rfl, Or.inr rfl⟩) ⟨rfl, Or.inl rfl⟩) (by rw [gg_ug_eq, wr_id ⟨by omega, by omega⟩]; rfl) (by rw [gg_ug_ne _ _ _ _ _ _ (by omega), gg_ug_eq]) (by rw [gg_ug_ne _ _ _ _ _ _ (by omega), gg_ug_ne _ _ _ _ _ _ (by omega), h4]) hq
      · have c6' : 6 ≤ (p : Int) - (s : Int) := by omega
        have f2 : gg (ug χ 71 13 (-1)) 71 10 = (p : Int) := by rw [gg_ug_ne _ _ _ _ _ _ (by omega), h2]
        rw [if_neg c6] at hq
        simp (disch := first | with_reducible assumption | omega | exact ga_in _ _ _ | exact gg_in _ _ _ | (unfold InR; omega) | (unfold InL; omega) | (simp only [shC_71, shC_72, shC_73, shC_74, shC_75, shC_76, shC_77, shC_78, shC_79, shL_72, shL_73, shL_74, shL_75, shL_76, shL_77, shL_78, shL_79]; first | done | omega)) only [q147_71, q147_72, q147_73, q147_76, q147_79, q147_81, q147_83, q147_86, q147_89, q147_90, q147_91, q147_94, q147_95, q147_98, q147_99, q147_101, q147_104, q147_105, q147_108, q147_110, q147_111, q147_112, q147_113, q147_116, q147_119, q147_120, q147_122, q147_123, q147_126, q147_127, q147_130, q147_131, q147_132, q147_135, q147_136, q147_137, shC_71, shC_72, shC_73, shC_74, shC_75, shC_76, shC_77, shC_78, shC_79, shL_72, shL_73, shL_74, shL_75, shL_76, shL_77, shL_78, shL_79, shR_71_0, shR_71_1, shR_71_2, shR_71_3, shR_71_4, shR_71_5, shR_71_8, shR_71_15, h2, h3, h4, f2, k145 hT p (by omega), k116, lt_97, c, c6', pushR_I, pushR_L, pushR_R, pushR_V, InR_gg, InR_ga, InR_wr, InL_gl, InR_b, b01, b01_0, if_true, if_false, not_true_eq_false, not_false_eq_true, and_true, true_and, and_self, Sum.inl.injEq, one0, Bool.false_eq_true]
        rw [q147_140]
        exact ih (p + 1) _ _ (by omega) (by omega) (SAM_ug (SAM_ug hs ⟨rfl, Or.inr rfl⟩) ⟨rfl, Or.inl rfl⟩) (by rw [gg_ug_eq, wr_id ⟨by omega, by omega⟩]; rfl) (by rw [gg_ug_ne _ _ _ _ _ _ (by omega), gg_ug_eq]; rfl) (by rw [gg_ug_ne _ _ _ _ _ _ (by omega), gg_ug_ne _ _ _ _ _ _ (by omega), h4]) hq
    · rw [if_neg c, if_neg c] at hq
      simp (disch := first | with_reducible assumption | omega | exact ga_in _ _ _ | exact gg_in _ _ _ | (unfold InR; omega) | (unfold InL; omega) | (simp only [shC_71, shC_72, shC_73, shC_74, shC_75, shC_76, shC_77, shC_78, shC_79, shL_72, shL_73, shL_74, shL_75, shL_76, shL_77, shL_78, shL_79]; first | done | omega)) only [q147_71, q147_72, q147_73, q147_76, q147_79, q147_81, q147_83, q147_86, q147_89, q147_90, q147_91, q147_94, q147_95, q147_98, q147_99, q147_101, q147_104, q147_105, q147_108, q147_110, q147_111, q147_112, q147_113, q147_116, q147_119, q147_120, q147_122, q147_123, q147_126, q147_127, q147_130, q147_131, q147_132, q147_135, q147_136, q147_137, shC_71, shC_72, shC_73, shC_74, shC_75, shC_76, shC_77, shC_78, shC_79, shL_72, shL_73, shL_74, shL_75, shL_76, shL_77, shL_78, shL_79, shR_71_0, shR_71_1, shR_71_2, shR_71_3, shR_71_4, shR_71_5, shR_71_8, shR_71_15, h2, k145 hT p (by omega), k116, lt_97, c, pushR_I, pushR_L, pushR_R, pushR_V, InR_gg, InR_ga, InR_wr, InL_gl, InR_b, b01, b01_0, if_true, if_false, not_true_eq_false, not_false_eq_true, and_true, true_and, and_self, Sum.inl.injEq, one0, Bool.false_eq_true]
      exact hq χ hs h2 h3
def vfF (b : Nat → Int) (s : Nat) : Nat → Nat → Int → Int
  | 0, _, v => v
  | k + 1, p, v => if fig (b p) then vfF b s k (p + 1) (if (p : Int) - (s : Int) < 2 then wr (v * 10 + b p - 48) else v) else v
theorem l147c (h : TXM σ b N) {w1 : AV} {s : Nat} : ∀ (k p : Nat) (v : Int) (χ : SG), p + k = N → s ≤ p → SAM S7103 σ χ → gg χ 71 10 = (p : Int) → gg χ 71 13 = v → gg χ 71 11 = (s : Int) →
    (∀ χ', SAM S7103 σ χ' → gg χ' 71 10 = (rnF fig b k p : Int) → gg χ' 71 13 = vfF b s k p v → Wp none (d + 2) 147 236 [.inr (.inr (.inl 71)), w1] [] χ' Q) → Wp none (d + 2) 147 162 [.inr (.inr (.inl 71)), w1] [] χ Q := by
  have hN := h.2.2.1
  intro k
  induction k with
  | zero =>
    intro p v χ hp hsp hs h2 h3 h4 hq
    have hT := TXM_same h (S7103_71 hs)
    have hr := h.2.2.2.2 p (by omega)
    have c : ¬ fig (b p) = true := by rw [hr]; decide
    have hrr := b_r h.2.2 p
    simp (disch := first | with_reducible assumption | omega | exact ga_in _ _ _ | exact gg_in _ _ _ | (unfold InR; omega) | (unfold InL; omega) | (simp only [shC_71, shC_72, shC_73, shC_74, shC_75, shC_76, shC_77, shC_78, shC_79, shL_72, shL_73, shL_74, shL_75, shL_76, shL_77, shL_78, shL_79]; first | done | omega)) only [q147_162, q147_163, q147_164, q147_167, q147_170, q147_172, q147_174, q147_177, shC_71, shC_72, shC_73, shC_74, shC_75, shC_76, shC_77, shC_78, shC_79, shL_72, shL_73, shL_74, shL_75, shL_76, shL_77, shL_78, shL_79, shR_71_0, shR_71_1, shR_71_2, shR_71_3, shR_71_4, shR_71_5, shR_71_8, shR_71_15, h2, k145 hT p (by omega), k116, fg_48, c, pushR_I, pushR_L, pushR_R, pushR_V, InR_gg, InR_ga, InR_wr, InL_gl, InR_b, b01, b01_0, if_true, if_false, not_true_eq_false, not_false_eq_true, and_true, true_and, and_self, Sum.inl.injEq, one0, Bool.false_eq_true]
    exact hq χ hs h2 h3
  | succ k ih =>
    intro p v χ hp hsp hs h2 h3 h4 hq
    have hT := TXM_same h (S7103_71 hs)
    have hr := b_r h.2.2 p
    simp only [rnF, vfF] at hq
    by_cases c : fig (b p) = true
    · rw [if_pos c, if_pos c] at hq
      by_cases c6 : (p : Int) - (s : Int) < 2
      · have c6' : ¬ 2 ≤ (p : Int) - (s : Int) := by omega
        have f2 : gg (ug χ 71 13 (v * 10 + b p - 48)) 71 10 = (p : Int) := by rw [gg_ug_ne _ _ _ _ _ _ (by omega), h2]
        rw [if_pos c6] at hq
        simp (disch := first | with_reducible assumption | omega | exact ga_in _ _ _ | exact gg_in _ _ _ | (unfold InR; omega) | (unfold InL; omega) | (simp only [shC_71, shC_72, shC_73, shC_74, shC_75, shC_76, shC_77, shC_78, shC_79, shL_72, shL_73, shL_74, shL_75, shL_76, shL_77, shL_78, shL_79]; first | done | omega)) only [q147_162, q147_163, q147_164, q147_167, q147_170, q147_172, q147_174, q147_177, q147_180, q147_181, q147_182, q147_185, q147_186, q147_189, q147_190, q147_191, q147_194, q147_195, q147_198, q147_200, q147_201, q147_202, q147_203, q147_206, q147_209, q147_210, q147_212, q147_213, q147_216, q147_217, q147_220, q147_223, q147_224, q147_225, q147_228, q147_229, q147_230, shC_71, shC_72, shC_73, shC_74, shC_75, shC_76, shC_77, shC_78, shC_79, shL_72, shL_73, shL_74, shL_75, shL_76, shL_77, shL_78, shL_79, shR_71_0, shR_71_1, shR_71_2, shR_71_3, shR_71_4, shR_71_5, shR_71_8, shR_71_15, h2, h3, h4, f2, k145 hT p (by omega), k116, fg_48, c, c6', pushR_I, pushR_L, pushR_R, pushR_V, InR_gg, InR_ga, InR_wr, InL_gl, InR_b, b01, b01_0, if_true, if_false, not_true_eq_false, not_false_eq_true, and_true, true_and, and_self, Sum.inl.injEq, one0, Bool.false_eq_true]
        rw [q147_233]
        exact ih (p + 1) _ _ (by omega) (by omega) (SAM_ug (SAM_ug hs ⟨rfl, Or.inr rfl⟩) ⟨rfl, Or.inl rfl⟩) (by rw [gg_ug_eq, wr_id ⟨by omega, by omega⟩]; rfl) (by rw [gg_ug_ne _ _ _ _ _ _ (by omega), gg_ug_eq]) (by rw [gg_ug_ne _ _ _ _ _ _ (by omega), gg_ug_ne _ _ _ _ _ _ (by omega), h4]) hq
      · have c6' : 2 ≤ (p : Int) - (s : Int) := by omega
        have hv : InR v := by rw [← h3]; exact gg_in _ _ _
        have f2 : gg (ug χ 71 13 v) 71 10 = (p : Int) := by rw [gg_ug_ne _ _ _ _ _ _ (by omega), h2]
        rw [if_neg c6] at hq
        simp (disch := first | with_reducible assumption | omega | exact ga_in _ _ _ | exact gg_in _ _ _ | (unfold InR; omega) | (unfold InL; omega) | (simp only [shC_71, shC_72, shC_73, shC_74, shC_75, shC_76, shC_77, shC_78, shC_79, shL_72, shL_73, shL_74, shL_75, shL_76, shL_77, shL_78, shL_79]; first | done | omega)) only [q147_162, q147_163, q147_164, q147_167, q147_170, q147_172, q147_174, q147_177, q147_180, q147_181, q147_182, q147_185, q147_186, q147_189, q147_190, q147_191, q147_194, q147_195, q147_198, q147_200, q147_201, q147_202, q147_203, q147_206, q147_209, q147_210, q147_212, q147_213, q147_216, q147_217, q147_220, q147_223, q147_224, q147_225, q147_228, q147_229, q147_230, shC_71, shC_72, shC_73, shC_74, shC_75, shC_76, shC_77, shC_78, shC_79, shL_72, shL_73, shL_74, shL_75, shL_76, shL_77, shL_78, shL_79, shR_71_0, shR_71_1, shR_71_2, shR_71_3, shR_71_4, shR_71_5, shR_71_8, shR_71_15, h2, h3, h4, f2, k145 hT p (by omega), k116, fg_48, c, c6', pushR_I, pushR_L, pushR_R, pushR_V, InR_gg, InR_ga, InR_wr, InL_gl, InR_b, b01, b01_0, if_true, if_false, not_true_eq_false, not_false_eq_true, and_true, true_and, and_self, Sum.inl.injEq, one0, Bool.false_eq_true]
        rw [q147_233]
        exact ih (p + 1) _ _ (by omega) (by omega) (SAM_ug (SAM_ug hs ⟨rfl, Or.inr rfl⟩) ⟨rfl, Or.inl rfl⟩) (by rw [gg_ug_eq, wr_id ⟨by omega, by omega⟩]; rfl) (by rw [gg_ug_ne _ _ _ _ _ _ (by omega), gg_ug_eq, wr_id hv]) (by rw [gg_ug_ne _ _ _ _ _ _ (by omega), gg_ug_ne _ _ _ _ _ _ (by omega), h4]) hq
    · rw [if_neg c, if_neg c] at hq
      simp (disch := first | with_reducible assumption | omega | exact ga_in _ _ _ | exact gg_in _ _ _ | (unfold InR; omega) | (unfold InL; omega) | (simp only [shC_71, shC_72, shC_73, shC_74, shC_75, shC_76, shC_77, shC_78, shC_79, shL_72, shL_73, shL_74, shL_75, shL_76, shL_77, shL_78, shL_79]; first | done | omega)) only [q147_162, q147_163, q147_164, q147_167, q147_170, q147_172, q147_174, q147_177, q147_180, q147_181, q147_182, q147_185, q147_186, q147_189, q147_190, q147_191, q147_194, q147_195, q147_198, q147_200, q147_201, q147_202, q147_203, q147_206, q147_209, q147_210, q147_212, q147_213, q147_216, q147_217, q147_220, q147_223, q147_224, q147_225, q147_228, q147_229, q147_230, shC_71, shC_72, shC_73, shC_74, shC_75, shC_76, shC_77, shC_78, shC_79, shL_72, shL_73, shL_74, shL_75, shL_76, shL_77, shL_78, shL_79, shR_71_0, shR_71_1, shR_71_2, shR_71_3, shR_71_4, shR_71_5, shR_71_8, shR_71_15, h2, k145 hT p (by omega), k116, fg_48, c, pushR_I, pushR_L, pushR_R, pushR_V, InR_gg, InR_ga, InR_wr, InL_gl, InR_b, b01, b01_0, if_true, if_false, not_true_eq_false, not_false_eq_true, and_true, true_and, and_self, Sum.inl.injEq, one0, Bool.false_eq_true]
      exact hq χ hs h2 h3
theorem vf_tV (h : TXb b N) {s : Nat} (hs : s < N) (hf : fig (b s) = true) (h2 : rnF fig b (N - s) s - s ≤ 2) : vfF b s (N - s) s 0 = if rnF fig b (N - s) s - s = 1 then b s - 48 else 10 * (b s - 48) + b (s + 1) - 48 := by
  have hf1 : 48 ≤ b s ∧ b s ≤ 57 := of_decide_eq_true hf
  have w1 : wr (0 * 10 + b s - 48) = b s - 48 := by rw [wr_id ⟨by omega, by omega⟩]; omega
  have e : N - s = (N - s - 1) + 1 := by omega
  have z0 : (s : Int) - (s : Int) < 2 := by omega
  have z1 : ((s + 1 : Nat) : Int) - (s : Int) < 2 := by omega
  rw [e] at h2 ⊢
  simp only [rnF, vfF, hf, if_true, z0, w1] at h2 ⊢
  generalize hk : N - s - 1 = k at h2 ⊢
  cases k with
  | zero =>
    simp only [rnF, vfF] at h2 ⊢
    exact (if_pos (show s + 1 - s = 1 by omega)).symm
  | succ k =>
    simp only [rnF, vfF] at h2 ⊢
    by_cases c : fig (b (s + 1)) = true
    · have hf2 : 48 ≤ b (s + 1) ∧ b (s + 1) ≤ 57 := of_decide_eq_true c
      have w2 : wr ((b s - 48) * 10 + b (s + 1) - 48) = 10 * (b s - 48) + b (s + 1) - 48 := by rw [wr_id ⟨by omega, by omega⟩]; omega
      simp only [c, if_true, z1, w2] at h2 ⊢
      have h3 := rnF_b (t := fig) (b := b) k (s + 1 + 1)
      rw [if_neg (by omega)]
      cases k with
      | zero => rfl
      | succ k =>
        simp only [rnF, vfF] at h2 ⊢
        by_cases c2 : fig (b (s + 1 + 1)) = true
        · simp only [c2, if_true] at h2
          have h4 := rnF_b (t := fig) (b := b) k (s + 1 + 1 + 1)
          omega
        · rw [if_neg c2]
    · simp only [c, if_false, Bool.false_eq_true] at h2 ⊢
      rw [if_pos (by omega)]
theorem m147 (h : TXM σ b N) {p : Nat} (hp : p ≤ N) (h2 : gg σ 71 10 = (p : Int)) : CalE (d + 3) 147 [.inr (.inr (.inl 71))] σ (fun r τ => r = aU ∧ SAM S71 σ τ ∧ RDM τ b N p ∧ gg τ 71 14 = gg σ 71 14) := by
  have hN := h.2.2.1
  have hb := h.2.2
  refine Cal_ex (ls := [.inr (.inr (.inl 71)), aU]) rfl mna_147 mml_147 mhl_147 rfl rfl ?_
  refine l147a (d := d) h (N - p) p σ (by omega) (SAM_refl _ _) h2 (fun χ hs hp2 => ?_)
  change gg χ 71 10 = (tS b N p : Int) at hp2
  have hts := tS_b (b := b) hp
  have hT := TXM_same h (S710_71 hs)
  have hr := b_r hb (tS b N p)
  have f14 : gg χ 71 14 = gg σ 71 14 := hs.1 _ _ (fun q => by have := q.2; omega)
  generalize hsd : tS b N p = s at hp2 hts hr
  have f2 : gg (ug χ 71 11 (s : Int)) 71 10 = (s : Int) := by rw [gg_ug_ne _ _ _ _ _ _ (by omega), hp2]
  have hT1 : TXM (ug χ 71 11 (s : Int)) b N := TXM_same hT (SAM_ug (SAM_refl _ _) ⟨rfl, by omega, by omega⟩)
  have hs2 : SAM S71 σ (ug (ug χ 71 11 (s : Int)) 71 13 0) := SAM_ug (SAM_ug (S710_71 hs) ⟨rfl, by omega, by omega⟩) ⟨rfl, by omega, by omega⟩
  have hT2 : TXM (ug (ug χ 71 11 (s : Int)) 71 13 0) b N := TXM_same h hs2
  have f2b : gg (ug (ug χ 71 11 (s : Int)) 71 13 0) 71 10 = (s : Int) := by rw [gg_ug_ne _ _ _ _ _ _ (by omega), f2]
  have f3 : gg (ug (ug χ 71 11 (s : Int)) 71 13 0) 71 11 = (s : Int) := by rw [gg_ug_ne _ _ _ _ _ _ (by omega), gg_ug_eq, wr_id ⟨by omega, by omega⟩]
  have f5 : gg (ug (ug χ 71 11 (s : Int)) 71 13 0) 71 13 = 0 := gg_ug_eq _ _ _ _
  have f6 : gg (ug (ug χ 71 11 (s : Int)) 71 13 0) 71 14 = gg σ 71 14 := by rw [gg_ug_ne _ _ _ _ _ _ (by omega), gg_ug_ne _ _ _ _ _ _ (by omega), f14]
  by_cases c0 : b s < 0
  · have c0' : ¬ 0 ≤ b s := by omega
    simp (disch := first | with_reducible assumption | omega | exact ga_in _ _ _ | exact gg_in _ _ _ | (unfold InR; omega) | (unfold InL; omega) | (simp only [shC_71, shC_72, shC_73, shC_74, shC_75, shC_76, shC_77, shC_78, shC_79, shL_72, shL_73, shL_74, shL_75, shL_76, shL_77, shL_78, shL_79]; first | done | omega)) only [q147_26, q147_27, q147_28, q147_31, q147_34, q147_35, q147_36, q147_39, q147_42, q147_43, q147_44, q147_45, q147_48, q147_49, q147_52, q147_53, q147_54, q147_57, q147_286, shC_71, shC_72, shC_73, shC_74, shC_75, shC_76, shC_77, shC_78, shC_79, shL_72, shL_73, shL_74, shL_75, shL_76, shL_77, shL_78, shL_79, shR_71_0, shR_71_1, shR_71_2, shR_71_3, shR_71_4, shR_71_5, shR_71_8, shR_71_15, hp2, f2, k145 hT1 s (by omega), c0', pushR_I, pushR_L, pushR_R, pushR_V, InR_gg, InR_ga, InR_wr, InL_gl, InR_b, b01, b01_0, if_true, if_false, not_true_eq_false, not_false_eq_true, and_true, true_and, and_self, Sum.inl.injEq, one0, Bool.false_eq_true]
    have kK : tK b N p = 0 := by unfold tK; rw [hsd, if_pos c0]
    have kE : tE b N p = s := by unfold tE; rw [hsd, if_pos c0]
    refine ⟨SAM_ug hs2 ⟨rfl, by omega, by omega⟩, ⟨?_, ?_, ?_, fun q => absurd (kK.symm.trans q) (by decide), fun q => absurd (kK.symm.trans q) (by decide)⟩, ?_⟩
    · rw [gg_ug_ne _ _ _ _ _ _ (by omega), f2b, kE]
    · rw [gg_ug_ne _ _ _ _ _ _ (by omega), f3, hsd]
    · rw [gg_ug_eq, kK]; rfl
    · rw [gg_ug_ne _ _ _ _ _ _ (by omega), f6]
  · have c0' : 0 ≤ b s := by omega
    by_cases c1 : ltr (b s) = true
    · simp (disch := first | with_reducible assumption | omega | exact ga_in _ _ _ | exact gg_in _ _ _ | (unfold InR; omega) | (unfold InL; omega) | (simp only [shC_71, shC_72, shC_73, shC_74, shC_75, shC_76, shC_77, shC_78, shC_79, shL_72, shL_73, shL_74, shL_75, shL_76, shL_77, shL_78, shL_79]; first | done | omega)) only [q147_26, q147_27, q147_28, q147_31, q147_34, q147_35, q147_36, q147_39, q147_42, q147_43, q147_44, q147_45, q147_48, q147_49, q147_52, q147_53, q147_54, q147_57, q147_60, q147_61, q147_63, q147_65, q147_68, shC_71, shC_72, shC_73, shC_74, shC_75, shC_76, shC_77, shC_78, shC_79, shL_72, shL_73, shL_74, shL_75, shL_76, shL_77, shL_78, shL_79, shR_71_0, shR_71_1, shR_71_2, shR_71_3, shR_71_4, shR_71_5, shR_71_8, shR_71_15, hp2, f2, k145 hT1 s (by omega), k116, lt_97, c0', c1, pushR_I, pushR_L, pushR_R, pushR_V, InR_gg, InR_ga, InR_wr, InL_gl, InR_b, b01, b01_0, if_true, if_false, not_true_eq_false, not_false_eq_true, and_true, true_and, and_self, Sum.inl.injEq, one0, Bool.false_eq_true]
      have kK : tK b N p = 1 := by unfold tK; rw [hsd, if_neg c0, if_pos c1]
      have kE : tE b N p = rnF ltr b (N - s) s := by unfold tE; rw [hsd, if_neg c0, if_pos c1]
      have kW : tW b N p = cdF b s (N - s) s 0 := by unfold tW; rw [hsd]
      refine l147b (d := d) (σ := ug (ug χ 71 11 (s : Int)) 71 13 0) hT2 (s := s) (N - s) s 0 _ (by omega) (Nat.le_refl _) (SAM_refl _ _) f2b f5 f3 (fun χ' hx hx2 hx3 => ?_)
      have hsx := SAM_trans hs2 (S7103_71 hx)
      have f3' : gg χ' 71 11 = (s : Int) := by rw [hx.1 _ _ (fun q => by have := q.2; omega), f3]
      have f6' : gg χ' 71 14 = gg σ 71 14 := by rw [hx.1 _ _ (fun q => by have := q.2; omega), f6]
      simp (disch := first | with_reducible assumption | omega | exact ga_in _ _ _ | exact gg_in _ _ _ | (unfold InR; omega) | (unfold InL; omega) | (simp only [shC_71, shC_72, shC_73, shC_74, shC_75, shC_76, shC_77, shC_78, shC_79, shL_72, shL_73, shL_74, shL_75, shL_76, shL_77, shL_78, shL_79]; first | done | omega)) only [q147_143, q147_144, q147_145, q147_148, q147_286, shC_71, shC_72, shC_73, shC_74, shC_75, shC_76, shC_77, shC_78, shC_79, shL_72, shL_73, shL_74, shL_75, shL_76, shL_77, shL_78, shL_79, shR_71_0, shR_71_1, shR_71_2, shR_71_3, shR_71_4, shR_71_5, shR_71_8, shR_71_15, pushR_I, pushR_L, pushR_R, pushR_V, InR_gg, InR_ga, InR_wr, InL_gl, InR_b, b01, b01_0, if_true, if_false, not_true_eq_false, not_false_eq_true, and_true, true_and, and_self, Sum.inl.injEq, one0, Bool.false_eq_true]
      refine ⟨SAM_ug hsx ⟨rfl, by omega, by omega⟩, ⟨?_, ?_, ?_, fun q => absurd (kK.symm.trans q) (by decide), fun _ => ?_⟩, ?_⟩
      · rw [gg_ug_ne _ _ _ _ _ _ (by omega), hx2, kE]
      · rw [gg_ug_ne _ _ _ _ _ _ (by omega), f3', hsd]
      · rw [gg_ug_eq, kK]; rfl
      · rw [gg_ug_ne _ _ _ _ _ _ (by omega), hx3, kW]
      · rw [gg_ug_ne _ _ _ _ _ _ (by omega), f6']
    · by_cases c2 : fig (b s) = true
      · simp (disch := first | with_reducible assumption | omega | exact ga_in _ _ _ | exact gg_in _ _ _ | (unfold InR; omega) | (unfold InL; omega) | (simp only [shC_71, shC_72, shC_73, shC_74, shC_75, shC_76, shC_77, shC_78, shC_79, shL_72, shL_73, shL_74, shL_75, shL_76, shL_77, shL_78, shL_79]; first | done | omega)) only [q147_26, q147_27, q147_28, q147_31, q147_34, q147_35, q147_36, q147_39, q147_42, q147_43, q147_44, q147_45, q147_48, q147_49, q147_52, q147_53, q147_54, q147_57, q147_60, q147_61, q147_63, q147_65, q147_68, q147_151, q147_152, q147_154, q147_156, q147_159, shC_71, shC_72, shC_73, shC_74, shC_75, shC_76, shC_77, shC_78, shC_79, shL_72, shL_73, shL_74, shL_75, shL_76, shL_77, shL_78, shL_79, shR_71_0, shR_71_1, shR_71_2, shR_71_3, shR_71_4, shR_71_5, shR_71_8, shR_71_15, hp2, f2, k145 hT1 s (by omega), k116, lt_97, fg_48, c0', c1, c2, pushR_I, pushR_L, pushR_R, pushR_V, InR_gg, InR_ga, InR_wr, InL_gl, InR_b, b01, b01_0, if_true, if_false, not_true_eq_false, not_false_eq_true, and_true, true_and, and_self, Sum.inl.injEq, one0, Bool.false_eq_true]
        have hsN : s < N := ltr_N hb (t := fig) rfl c2
        have kE : tE b N p = rnF fig b (N - s) s := by unfold tE; rw [hsd, if_neg c0, if_neg c1, if_pos c2]
        have hrn := rnF_b (t := fig) (b := b) (N - s) s
        have kV := vf_tV hb hsN c2
        refine l147c (d := d) (σ := ug (ug χ 71 11 (s : Int)) 71 13 0) hT2 (s := s) (N - s) s 0 _ (by omega) (Nat.le_refl _) (SAM_refl _ _) f2b f5 f3 (fun χ' hx hx2 hx5 => ?_)
        have f3' : gg χ' 71 11 = (s : Int) := by rw [hx.1 _ _ (fun q => by have := q.2; omega), f3]
        have f6' : gg χ' 71 14 = gg σ 71 14 := by rw [hx.1 _ _ (fun q => by have := q.2; omega), f6]
        have hsx := SAM_trans hs2 (S7103_71 hx)
        by_cases c3 : rnF fig b (N - s) s - s ≤ 2
        · have c3' : (rnF fig b (N - s) s : Int) - (s : Int) ≤ 2 := by omega
          have kK : tK b N p = 2 := by unfold tK; rw [kE, hsd, if_neg c0, if_neg c1, if_pos c2, if_pos c3]
          simp (disch := first | with_reducible assumption | omega | exact ga_in _ _ _ | exact gg_in _ _ _ | (unfold InR; omega) | (unfold InL; omega) | (simp only [shC_71, shC_72, shC_73, shC_74, shC_75, shC_76, shC_77, shC_78, shC_79, shL_72, shL_73, shL_74, shL_75, shL_76, shL_77, shL_78, shL_79]; first | done | omega)) only [q147_236, q147_237, q147_238, q147_241, q147_242, q147_245, q147_246, q147_247, q147_250, q147_251, q147_254, q147_255, q147_258, q147_286, shC_71, shC_72, shC_73, shC_74, shC_75, shC_76, shC_77, shC_78, shC_79, shL_72, shL_73, shL_74, shL_75, shL_76, shL_77, shL_78, shL_79, shR_71_0, shR_71_1, shR_71_2, shR_71_3, shR_71_4, shR_71_5, shR_71_8, shR_71_15, hx2, f3', c3', pushR_I, pushR_L, pushR_R, pushR_V, InR_gg, InR_ga, InR_wr, InL_gl, InR_b, b01, b01_0, if_true, if_false, not_true_eq_false, not_false_eq_true, and_true, true_and, and_self, Sum.inl.injEq, one0, Bool.false_eq_true]
          refine ⟨SAM_ug hsx ⟨rfl, by omega, by omega⟩, ⟨?_, ?_, ?_, fun _ => ?_, fun q => absurd (kK.symm.trans q) (by decide)⟩, ?_⟩
          · rw [gg_ug_ne _ _ _ _ _ _ (by omega), hx2, kE]
          · rw [gg_ug_ne _ _ _ _ _ _ (by omega), f3', hsd]
          · rw [gg_ug_eq, kK]; rfl
          · rw [gg_ug_ne _ _ _ _ _ _ (by omega), hx5, kV c3]
            unfold tV
            rw [kE, hsd]
          · rw [gg_ug_ne _ _ _ _ _ _ (by omega), f6']
        · have c3' : ¬ (rnF fig b (N - s) s : Int) - (s : Int) ≤ 2 := by omega
          have kK : tK b N p = 4 := by unfold tK; rw [kE, hsd, if_neg c0, if_neg c1, if_pos c2, if_neg c3]
          simp (disch := first | with_reducible assumption | omega | exact ga_in _ _ _ | exact gg_in _ _ _ | (unfold InR; omega) | (unfold InL; omega) | (simp only [shC_71, shC_72, shC_73, shC_74, shC_75, shC_76, shC_77, shC_78, shC_79, shL_72, shL_73, shL_74, shL_75, shL_76, shL_77, shL_78, shL_79]; first | done | omega)) only [q147_236, q147_237, q147_238, q147_241, q147_242, q147_245, q147_246, q147_247, q147_250, q147_251, q147_254, q147_255, q147_258, q147_286, shC_71, shC_72, shC_73, shC_74, shC_75, shC_76, shC_77, shC_78, shC_79, shL_72, shL_73, shL_74, shL_75, shL_76, shL_77, shL_78, shL_79, shR_71_0, shR_71_1, shR_71_2, shR_71_3, shR_71_4, shR_71_5, shR_71_8, shR_71_15, hx2, f3', c3', pushR_I, pushR_L, pushR_R, pushR_V, InR_gg, InR_ga, InR_wr, InL_gl, InR_b, b01, b01_0, if_true, if_false, not_true_eq_false, not_false_eq_true, and_true, true_and, and_self, Sum.inl.injEq, one0, Bool.false_eq_true]
          refine ⟨SAM_ug hsx ⟨rfl, by omega, by omega⟩, ⟨?_, ?_, ?_, fun q => absurd (kK.symm.trans q) (by decide), fun q => absurd (kK.symm.trans q) (by decide)⟩, ?_⟩
          · rw [gg_ug_ne _ _ _ _ _ _ (by omega), hx2, kE]
          · rw [gg_ug_ne _ _ _ _ _ _ (by omega), f3', hsd]
          · rw [gg_ug_eq, kK]; rfl
          · rw [gg_ug_ne _ _ _ _ _ _ (by omega), f6']
      · have kE : tE b N p = s + 1 := by unfold tE; rw [hsd, if_neg c0, if_neg c1, if_neg c2]
        have fe : ∀ z, gg (ug (ug (ug χ 71 11 (s : Int)) 71 13 0) 71 12 z) 71 10 = (s : Int) := fun z => by rw [gg_ug_ne _ _ _ _ _ _ (by omega), f2b]
        by_cases c3 : b s = 59
        · have kK : tK b N p = 3 := by unfold tK; rw [hsd, if_neg c0, if_neg c1, if_neg c2, if_pos c3]
          have l59 : ¬ ltr 59 = true := by decide
          have g59 : ¬ fig 59 = true := by decide
          simp (disch := first | with_reducible assumption | omega | exact ga_in _ _ _ | exact gg_in _ _ _ | (unfold InR; omega) | (unfold InL; omega) | (simp only [shC_71, shC_72, shC_73, shC_74, shC_75, shC_76, shC_77, shC_78, shC_79, shL_72, shL_73, shL_74, shL_75, shL_76, shL_77, shL_78, shL_79]; first | done | omega)) only [q147_26, q147_27, q147_28, q147_31, q147_34, q147_35, q147_36, q147_39, q147_42, q147_43, q147_44, q147_45, q147_48, q147_49, q147_52, q147_53, q147_54, q147_57, q147_60, q147_61, q147_63, q147_65, q147_68, q147_151, q147_152, q147_154, q147_156, q147_159, q147_261, q147_262, q147_263, q147_265, q147_268, q147_269, q147_272, q147_273, q147_276, q147_277, q147_278, q147_281, q147_282, q147_283, q147_286, shC_71, shC_72, shC_73, shC_74, shC_75, shC_76, shC_77, shC_78, shC_79, shL_72, shL_73, shL_74, shL_75, shL_76, shL_77, shL_78, shL_79, shR_71_0, shR_71_1, shR_71_2, shR_71_3, shR_71_4, shR_71_5, shR_71_8, shR_71_15, hp2, f2, fe, k145 hT1 s (by omega), k116, lt_97, fg_48, c3, l59, g59, show (0 : Int) ≤ 59 by omega, pushR_I, pushR_L, pushR_R, pushR_V, InR_gg, InR_ga, InR_wr, InL_gl, InR_b, b01, b01_0, if_true, if_false, not_true_eq_false, not_false_eq_true, and_true, true_and, and_self, Sum.inl.injEq, one0, Bool.false_eq_true]
          refine ⟨SAM_ug (SAM_ug hs2 ⟨rfl, by omega, by omega⟩) ⟨rfl, by omega, by omega⟩, ⟨?_, ?_, ?_, fun q => absurd (kK.symm.trans q) (by decide), fun q => absurd (kK.symm.trans q) (by decide)⟩, ?_⟩
          · rw [gg_ug_eq, kE, wr_id ⟨by omega, by omega⟩]; rfl
          · rw [gg_ug_ne _ _ _ _ _ _ (by omega), gg_ug_ne _ _ _ _ _ _ (by omega), f3, hsd]
          · rw [gg_ug_ne _ _ _ _ _ _ (by omega), gg_ug_eq, kK]; rfl
          · rw [gg_ug_ne _ _ _ _ _ _ (by omega), gg_ug_ne _ _ _ _ _ _ (by omega), f6]
        · have kK : tK b N p = 4 := by unfold tK; rw [hsd, if_neg c0, if_neg c1, if_neg c2, if_neg c3]
          simp (disch := first | with_reducible assumption | omega | exact ga_in _ _ _ | exact gg_in _ _ _ | (unfold InR; omega) | (unfold InL; omega) | (simp only [shC_71, shC_72, shC_73, shC_74, shC_75, shC_76, shC_77, shC_78, shC_79, shL_72, shL_73, shL_74, shL_75, shL_76, shL_77, shL_78, shL_79]; first | done | omega)) only [q147_26, q147_27, q147_28, q147_31, q147_34, q147_35, q147_36, q147_39, q147_42, q147_43, q147_44, q147_45, q147_48, q147_49, q147_52, q147_53, q147_54, q147_57, q147_60, q147_61, q147_63, q147_65, q147_68, q147_151, q147_152, q147_154, q147_156, q147_159, q147_261, q147_262, q147_263, q147_265, q147_268, q147_269, q147_272, q147_273, q147_276, q147_277, q147_278, q147_281, q147_282, q147_283, q147_286, shC_71, shC_72, shC_73, shC_74, shC_75, shC_76, shC_77, shC_78, shC_79, shL_72, shL_73, shL_74, shL_75, shL_76, shL_77, shL_78, shL_79, shR_71_0, shR_71_1, shR_71_2, shR_71_3, shR_71_4, shR_71_5, shR_71_8, shR_71_15, hp2, f2, fe, k145 hT1 s (by omega), k116, lt_97, fg_48, c0', c1, c2, c3, pushR_I, pushR_L, pushR_R, pushR_V, InR_gg, InR_ga, InR_wr, InL_gl, InR_b, b01, b01_0, if_true, if_false, not_true_eq_false, not_false_eq_true, and_true, true_and, and_self, Sum.inl.injEq, one0, Bool.false_eq_true]
          refine ⟨SAM_ug (SAM_ug hs2 ⟨rfl, by omega, by omega⟩) ⟨rfl, by omega, by omega⟩, ⟨?_, ?_, ?_, fun q => absurd (kK.symm.trans q) (by decide), fun q => absurd (kK.symm.trans q) (by decide)⟩, ?_⟩
          · rw [gg_ug_eq, kE, wr_id ⟨by omega, by omega⟩]; rfl
          · rw [gg_ug_ne _ _ _ _ _ _ (by omega), gg_ug_ne _ _ _ _ _ _ (by omega), f3, hsd]
          · rw [gg_ug_ne _ _ _ _ _ _ (by omega), gg_ug_eq, kK]; rfl
          · rw [gg_ug_ne _ _ _ _ _ _ (by omega), gg_ug_ne _ _ _ _ _ _ (by omega), f6]
end STEPM
