-- what the class's town 'now' fits, counts and weighs
/-- p holds of all of i .. i + n - 1 -/
def allF (p : Nat → Bool) : Nat → Nat → Bool
  | _, 0 => true
  | i, n + 1 => p i && allF p (i + 1) n
/-- a number with the bits of those of i .. i + n - 1 of which p holds -/
def orB (a : Int) (i : Nat) : Int := ((a.toNat ||| (1 * 2 ^ i : Int).toNat : Nat) : Int)
def orF (p : Nat → Bool) : Nat → Nat → Int → Int
  | _, 0, a => a
  | i, n + 1, a => orF p (i + 1) n (if p i then orB a i else a)
/-- the greatest of a and of c i .. c (i + n - 1) -/
def mxF (c : Nat → Int) : Nat → Nat → Int → Int
  | _, 0, a => a
  | i, n + 1, a => mxF c (i + 1) n (if a < c i then c i else a)
/-- how many of f 0 .. f (n - 1) are like v -/
def likeF (f : Nat → Int) (v : Int) (n : Nat) : Int := sumF (fun j => if v = f j then 1 else 0) 0 n
def mostF (f : Nat → Int) (n : Nat) : Int := mxF (fun i => likeF f (f i) n) 0 n 0
theorem allF_congr {p q : Nat → Bool} : ∀ (n i : Nat), (∀ j, i ≤ j → j < i + n → p j = q j) → allF p i n = allF q i n := by
  intro n
  induction n with
  | zero => intro i h; rfl
  | succ n ih => intro i h; simp only [allF]; rw [h i (by omega) (by omega), ih (i + 1) (fun j h1 h2 => h j (by omega) (by omega))]
theorem orF_congr {p q : Nat → Bool} : ∀ (n i : Nat) (a : Int), (∀ j, i ≤ j → j < i + n → p j = q j) → orF p i n a = orF q i n a := by
  intro n
  induction n with
  | zero => intro i a h; rfl
  | succ n ih => intro i a h; simp only [orF]; rw [h i (by omega) (by omega), ih (i + 1) _ (fun j h1 h2 => h j (by omega) (by omega))]
theorem orB_lt {a : Int} {i : Nat} (h0 : 0 ≤ a) (h : a < 2 ^ i) : 0 ≤ orB a i ∧ orB a i < 2 ^ (i + 1) := by
  unfold orB
  refine ⟨Int.natCast_nonneg _, ?_⟩
  have h1 : a.toNat < 2 ^ (i + 1) := by
    have e : ((2 ^ (i + 1) : Nat) : Int) = 2 ^ i * 2 := by rw [Int.natCast_pow, Int.pow_succ]; rfl
    have : (a.toNat : Int) = a := Int.toNat_of_nonneg h0
    omega
  have h2 : (1 * 2 ^ i : Int).toNat < 2 ^ (i + 1) := by
    have e : (1 * 2 ^ i : Int) = ((2 ^ i : Nat) : Int) := by rw [Int.one_mul, Int.natCast_pow]; rfl
    rw [e, Int.toNat_natCast, Nat.pow_succ]
    have := Nat.pow_pos (n := i) (show 0 < 2 by omega)
    omega
  have h3 := Nat.or_lt_two_pow h1 h2
  have e : ((2 ^ (i + 1) : Nat) : Int) = 2 ^ (i + 1) := by rw [Int.natCast_pow]; rfl
  rw [← e]
  exact Int.ofNat_lt.mpr h3
theorem orF_lt {p : Nat → Bool} : ∀ (n i : Nat) (a : Int), 0 ≤ a → a < 2 ^ i → 0 ≤ orF p i n a ∧ orF p i n a < 2 ^ (i + n) := by
  intro n
  induction n with
  | zero => intro i a h0 h; exact ⟨h0, h⟩
  | succ n ih =>
    intro i a h0 h
    simp only [orF]
    rw [show i + (n + 1) = (i + 1) + n by omega]
    split
    · obtain ⟨a1, a2⟩ := orB_lt h0 h
      exact ih (i + 1) _ a1 a2
    · refine ih (i + 1) a h0 (Int.lt_of_lt_of_le h ?_)
      rw [Int.pow_succ]
      have : (0 : Int) < 2 ^ i := Int.pow_pos (by omega)
      omega
section NOW
variable {d : Nat} {σ : SG} {K : AV → SG → Prop} {Q : AV → SG → Prop}
theorem T1 : isT 1 := Or.inl rfl
theorem TOK1 (h : TOK σ 1) : (0 ≤ gg σ 1 0 ∧ gg σ 1 0 ≤ 7) ∧ (0 ≤ gg σ 1 1 ∧ gg σ 1 1 ≤ 5) ∧ (0 ≤ gg σ 1 2 ∧ gg σ 1 2 ≤ 100000) ∧
  (∀ l : Int, 0 ≤ l → l < gg σ 1 0 → (0 ≤ ga σ 2 l ∧ ga σ 2 l ≤ 5) ∧ (1 ≤ ga σ 3 l ∧ ga σ 3 l ≤ 9) ∧ (0 ≤ ga σ 4 l ∧ ga σ 4 l ≤ 9)) ∧
  (∀ o : Int, 0 ≤ o → o < gg σ 1 1 → (0 ≤ ga σ 5 o ∧ ga σ 5 o ≤ 5) ∧ (0 ≤ ga σ 6 o ∧ ga σ 6 o ≤ 99)) := h
/-- seen ones: the row i fits a lie of that kind and untruth -/
def seenC (σ : SG) (kd u : Int) (i : Nat) : Bool :=
  decide (tkI (ga σ 5 (ga σ 8 ((i : Int) * 5 + 0))) (ltI kd u (ga σ 8 ((i : Int) * 5 + 2)) (ga σ 8 ((i : Int) * 5 + 3))) (ga σ 8 ((i : Int) * 5 + 1)) = ga σ 8 ((i : Int) * 5 + 4))
def SEEN (σ : SG) : Prop := gg σ 7 1 = 5 ∧ gg σ 7 0 = 5 ∧ 0 ≤ gg σ 7 3 ∧ gg σ 7 3 ≤ 5 ∧ ∀ i : Int, 0 ≤ i → i < gg σ 7 3 → (0 ≤ ga σ 8 (i * 5 + 0) ∧ ga σ 8 (i * 5 + 0) < gg σ 1 1) ∧ (0 ≤ ga σ 8 (i * 5 + 1) ∧ ga σ 8 (i * 5 + 1) ≤ 99) ∧ (0 ≤ ga σ 8 (i * 5 + 2) ∧ ga σ 8 (i * 5 + 2) ≤ 9) ∧ (0 ≤ ga σ 8 (i * 5 + 3) ∧ ga σ 8 (i * 5 + 3) ≤ 99) ∧ (0 ≤ ga σ 8 (i * 5 + 4) ∧ ga σ 8 (i * 5 + 4) ≤ 60)
def NOTE (σ : SG) : Prop := gg σ 9 1 = 5 ∧ gg σ 9 0 = 6 ∧ 0 ≤ gg σ 9 3 ∧ gg σ 9 3 ≤ 6 ∧ ∀ i : Int, 0 ≤ i → i < gg σ 9 3 → (0 ≤ ga σ 10 (i * 5 + 0) ∧ ga σ 10 (i * 5 + 0) < gg σ 1 0) ∧ (1 ≤ ga σ 10 (i * 5 + 1) ∧ ga σ 10 (i * 5 + 1) ≤ 9) ∧ (0 ≤ ga σ 10 (i * 5 + 2) ∧ ga σ 10 (i * 5 + 2) ≤ 9) ∧ (0 ≤ ga σ 10 (i * 5 + 3) ∧ ga σ 10 (i * 5 + 3) ≤ 99) ∧ (0 ≤ ga σ 10 (i * 5 + 4) ∧ ga σ 10 (i * 5 + 4) ≤ 60)
def MARK (σ : SG) : Prop := gg σ 11 1 = 4 ∧ gg σ 11 0 = 6 ∧ 0 ≤ gg σ 11 3 ∧ gg σ 11 3 ≤ 6 ∧ ∀ i : Int, 0 ≤ i → i < gg σ 11 3 → (0 ≤ ga σ 12 (i * 4 + 0) ∧ ga σ 12 (i * 4 + 0) < gg σ 1 1) ∧ (0 ≤ ga σ 12 (i * 4 + 1) ∧ ga σ 12 (i * 4 + 1) ≤ 99) ∧ (0 ≤ ga σ 12 (i * 4 + 2) ∧ ga σ 12 (i * 4 + 2) ≤ 60) ∧ (0 ≤ ga σ 12 (i * 4 + 3) ∧ ga σ 12 (i * 4 + 3) ≤ 60)
theorem l102 (hO : TOK σ 1) (hS : SEEN σ) {kd u : Int} (h0 : 0 ≤ kd ∧ kd ≤ 5) (hu : 0 ≤ u ∧ u ≤ 9) : ∀ (n i : Nat) (w5 w6 : AV), (i : Int) + n = gg σ 7 3 → Wp none (d + 2) 102 11 [.inr (.inr (.inl 0)), .inl kd, .inl u, .inr (.inr (.inl 7)), .inl (i : Int), w5, w6] [] σ Q = Q (.inl (if allF (seenC σ kd u) i n then 1 else 0)) σ := by
  obtain ⟨s1, s0, s2, s3, s4⟩ := hS
  obtain ⟨o1, o2, o3, o4, o5⟩ := TOK1 hO
  intro n
  induction n with
  | zero =>
    intro i w5 w6 h
    have e : gg σ 7 3 = (i : Int) := by omega
    simp (disch := first | with_reducible assumption | omega | exact ga_in _ _ _ | exact gg_in _ _ _ | (unfold InR; omega) | (unfold InL; omega) | (simp only [shC_0, shC_1, shC_2, shC_3, shC_4, shC_5, shC_6, shC_7, shC_8, shC_9, shC_10, shC_11, shC_12, shC_13, shC_14, shC_29, shC_58, shC_59, shC_60, shC_61, shC_62, shC_63, shC_64, shC_65, shC_66, shC_67, shC_68, shC_69, shC_70, shL_2, shL_3, shL_4, shL_5, shL_6, shL_8, shL_10, shL_12, shL_14, shL_29, shL_58, shL_60, shL_62, shL_63, shL_65, shL_66, shL_67, shL_68, shL_69, shL_70]; first | done | omega)) only [q102_11, q102_13, q102_14, q102_17, q102_92, q102_93, shC_7, e, Int.le_refl, allF, pushR_I, pushR_L, pushR_R, pushR_V, InR_gg, InR_ga, InR_wr, InL_gl, InR_b, b01, b01_0, if_true, if_false, not_true_eq_false, not_false_eq_true, and_true, true_and, and_self, Sum.inl.injEq, one0, Bool.false_eq_true]
  | succ n ih =>
    intro i w5 w6 h
    have e : ¬ gg σ 7 3 ≤ (i : Int) := by omega
    obtain ⟨b0, b1, b2, b3, b4⟩ := s4 (i : Int) (by omega) (by omega)
    obtain ⟨c1, c2⟩ := o5 (ga σ 8 ((i : Int) * 5 + 0)) b0.1 b0.2
    have b6 := ltI_b (kind := kd) (x := ga σ 8 ((i : Int) * 5 + 3)) (u := u) (k := ga σ 8 ((i : Int) * 5 + 2)) (by omega) (by omega)
    have b7 := tkI_b (kind := ga σ 5 (ga σ 8 ((i : Int) * 5 + 0))) (x := ltI kd u (ga σ 8 ((i : Int) * 5 + 2)) (ga σ 8 ((i : Int) * 5 + 3))) (h := ga σ 8 ((i : Int) * 5 + 1)) b6 b1
    have hk28 : ∀ (j : Int), 0 ≤ j → j ≤ 4 → ∀ K', CalK (d + 2) 28 [.inr (.inr (.inl 7)), .inl (i : Int), .inl j] σ K' = K' (.inl (ga σ 8 ((i : Int) * 5 + j))) σ := by
      intro j h1 h2 K'
      have := k28 (d := d) (σ := σ) (K := K') (k := 7) (c := 8) (i := (i : Int)) (j := j) shC_7 shR_7_2 shC_8 (by rw [s1]; omega) (by rw [s1, shL_8]; omega)
      rw [s1] at this
      exact this
    by_cases hc : tkI (ga σ 5 (ga σ 8 ((i : Int) * 5 + 0))) (ltI kd u (ga σ 8 ((i : Int) * 5 + 2)) (ga σ 8 ((i : Int) * 5 + 3))) (ga σ 8 ((i : Int) * 5 + 1)) = ga σ 8 ((i : Int) * 5 + 4)
    · have ec : seenC σ kd u i = true := decide_eq_true hc
      simp (disch := first | with_reducible assumption | omega | exact ga_in _ _ _ | exact gg_in _ _ _ | (unfold InR; omega) | (unfold InL; omega) | (simp only [shC_0, shC_1, shC_2, shC_3, shC_4, shC_5, shC_6, shC_7, shC_8, shC_9, shC_10, shC_11, shC_12, shC_13, shC_14, shC_29, shC_58, shC_59, shC_60, shC_61, shC_62, shC_63, shC_64, shC_65, shC_66, shC_67, shC_68, shC_69, shC_70, shL_2, shL_3, shL_4, shL_5, shL_6, shL_8, shL_10, shL_12, shL_14, shL_29, shL_58, shL_60, shL_62, shL_63, shL_65, shL_66, shL_67, shL_68, shL_69, shL_70]; first | done | omega)) only [q102_11, q102_13, q102_14, q102_17, q102_20, q102_21, q102_24, q102_27, q102_28, q102_30, q102_31, q102_34, q102_37, q102_39, q102_40, q102_41, q102_42, q102_44, q102_45, q102_48, q102_49, q102_51, q102_52, q102_55, q102_58, q102_60, q102_62, q102_64, q102_65, q102_67, q102_68, q102_71, q102_74, q102_75, q102_77, q102_78, q102_81, q102_84, q102_85, q102_86, shC_7, shC_1, shR_1_6, shR_1_8, shC_5, shL_5, e, hk28, k89, k94, k95, hc, pushR_I, pushR_L, pushR_R, pushR_V, InR_gg, InR_ga, InR_wr, InL_gl, InR_b, b01, b01_0, if_true, if_false, not_true_eq_false, not_false_eq_true, and_true, true_and, and_self, Sum.inl.injEq, one0, Bool.false_eq_true]
      rw [q102_89]
      refine (ih (i + 1) _ _ (by omega)).trans ?_
      simp only [allF, ec, Bool.true_and]
    · have ec : seenC σ kd u i = false := decide_eq_false hc
      simp (disch := first | with_reducible assumption | omega | exact ga_in _ _ _ | exact gg_in _ _ _ | (unfold InR; omega) | (unfold InL; omega) | (simp only [shC_0, shC_1, shC_2, shC_3, shC_4, shC_5, shC_6, shC_7, shC_8, shC_9, shC_10, shC_11, shC_12, shC_13, shC_14, shC_29, shC_58, shC_59, shC_60, shC_61, shC_62, shC_63, shC_64, shC_65, shC_66, shC_67, shC_68, shC_69, shC_70, shL_2, shL_3, shL_4, shL_5, shL_6, shL_8, shL_10, shL_12, shL_14, shL_29, shL_58, shL_60, shL_62, shL_63, shL_65, shL_66, shL_67, shL_68, shL_69, shL_70]; first | done | omega)) only [q102_11, q102_13, q102_14, q102_17, q102_20, q102_21, q102_24, q102_27, q102_28, q102_30, q102_31, q102_34, q102_37, q102_39, q102_40, q102_41, q102_42, q102_44, q102_45, q102_48, q102_49, q102_51, q102_52, q102_55, q102_58, q102_60, q102_62, q102_64, q102_65, q102_67, q102_68, q102_71, q102_74, q102_75, q102_77, q102_78, q102_81, q102_84, q102_85, q102_86, shC_7, shC_1, shR_1_6, shR_1_8, shC_5, shL_5, e, hk28, k89, k94, k95, hc, allF, ec, Bool.false_and, pushR_I, pushR_L, pushR_R, pushR_V, InR_gg, InR_ga, InR_wr, InL_gl, InR_b, b01, b01_0, if_true, if_false, not_true_eq_false, not_false_eq_true, and_true, true_and, and_self, Sum.inl.injEq, one0, Bool.false_eq_true]
      all_goals (first | rfl | exact ⟨rfl, rfl⟩ | exact ⟨trivial, trivial⟩)
theorem m102 (hO : TOK σ 1) (hS : SEEN σ) {kd u : Int} (h0 : 0 ≤ kd ∧ kd ≤ 5) (hu : 0 ≤ u ∧ u ≤ 9) : Cal (d + 3) 102 [.inr (.inr (.inl 0)), .inl kd, .inl u] σ (.inl (if allF (seenC σ kd u) 0 (gg σ 7 3).toNat then 1 else 0)) σ := by
  have hS' := hS
  obtain ⟨s1, s0, s2, s3, s4⟩ := hS
  refine Cal_in (ls := [.inr (.inr (.inl 0)), .inl kd, .inl u, aU, aU, aU, aU]) rfl mna_102 mml_102 mhl_102 rfl rfl ?_
  simp (disch := first | with_reducible assumption | omega | exact ga_in _ _ _ | exact gg_in _ _ _ | (unfold InR; omega) | (unfold InL; omega) | (simp only [shC_0, shC_1, shC_2, shC_3, shC_4, shC_5, shC_6, shC_7, shC_8, shC_9, shC_10, shC_11, shC_12, shC_13, shC_14, shC_29, shC_58, shC_59, shC_60, shC_61, shC_62, shC_63, shC_64, shC_65, shC_66, shC_67, shC_68, shC_69, shC_70, shL_2, shL_3, shL_4, shL_5, shL_6, shL_8, shL_10, shL_12, shL_14, shL_29, shL_58, shL_60, shL_62, shL_63, shL_65, shL_66, shL_67, shL_68, shL_69, shL_70]; first | done | omega)) only [q102_0, q102_1, q102_4, q102_7, q102_8, q102_9, shC_1, shR_1_8, pushR_I, pushR_L, pushR_R, pushR_V, InR_gg, InR_ga, InR_wr, InL_gl, InR_b, b01, b01_0, if_true, if_false, not_true_eq_false, not_false_eq_true, and_true, true_and, and_self, Sum.inl.injEq, one0, Bool.false_eq_true]
  refine (l102 (d := d) hO hS' h0 hu (gg σ 7 3).toNat 0 _ _ (by omega)).mpr ⟨rfl, rfl⟩
theorem k102 (hO : TOK σ 1) (hS : SEEN σ) {kd u : Int} (h0 : 0 ≤ kd ∧ kd ≤ 5) (hu : 0 ≤ u ∧ u ≤ 9) : CalK (d + 3) 102 [.inr (.inr (.inl 0)), .inl kd, .inl u] σ K = K (.inl (if allF (seenC σ kd u) 0 (gg σ 7 3).toNat then 1 else 0)) σ := CalK_eq (m102 hO hS h0 hu)
/-- the kinds and untruths of the lies that are there fit what was seen, as bits -/
def whichC (σ : SG) (l : Nat) : Bool := allF (seenC σ (ga σ 2 (l : Int)) (ga σ 3 (l : Int))) 0 (gg σ 7 3).toNat
theorem l101 (hO : TOK σ 1) (hS : SEEN σ) : ∀ (n i : Nat) (a : Int), (i : Int) + n = gg σ 1 0 → 0 ≤ a → a < 2 ^ i → Wp none (d + 3) 101 4 [.inr (.inr (.inl 0)), .inl a, .inl (i : Int)] [] σ Q = Q (.inl (orF (whichC σ) i n a)) σ := by
  have hO' := hO
  obtain ⟨o1, o2, o3, o4, o5⟩ := TOK1 hO
  intro n
  induction n with
  | zero =>
    intro i a h h0 h1
    have e : gg σ 1 0 = (i : Int) := by omega
    simp (disch := first | with_reducible assumption | omega | exact ga_in _ _ _ | exact gg_in _ _ _ | (unfold InR; omega) | (unfold InL; omega) | (simp only [shC_0, shC_1, shC_2, shC_3, shC_4, shC_5, shC_6, shC_7, shC_8, shC_9, shC_10, shC_11, shC_12, shC_13, shC_14, shC_29, shC_58, shC_59, shC_60, shC_61, shC_62, shC_63, shC_64, shC_65, shC_66, shC_67, shC_68, shC_69, shC_70, shL_2, shL_3, shL_4, shL_5, shL_6, shL_8, shL_10, shL_12, shL_14, shL_29, shL_58, shL_60, shL_62, shL_63, shL_65, shL_66, shL_67, shL_68, shL_69, shL_70]; first | done | omega)) only [q101_4, q101_5, q101_6, q101_9, q101_12, q101_56, q101_57, shC_1, e, Int.le_refl, orF, pushR_I, pushR_L, pushR_R, pushR_V, InR_gg, InR_ga, InR_wr, InL_gl, InR_b, b01, b01_0, if_true, if_false, not_true_eq_false, not_false_eq_true, and_true, true_and, and_self, Sum.inl.injEq, one0, Bool.false_eq_true]
  | succ n ih =>
    intro i a h h0 h1
    have e : ¬ gg σ 1 0 ≤ (i : Int) := by omega
    obtain ⟨b1, b2, b3⟩ := o4 (i : Int) (by omega) (by omega)
    have p7 : (2 : Int) ^ i ≤ 64 := by
      have : i = 0 ∨ i = 1 ∨ i = 2 ∨ i = 3 ∨ i = 4 ∨ i = 5 ∨ i = 6 := by omega
      rcases this with rfl | rfl | rfl | rfl | rfl | rfl | rfl <;> decide
    have p0 : (0 : Int) < 2 ^ i := Int.pow_pos (by omega)
    have q1 : (0 : Int) ≤ 1 * 2 ^ i := by omega
    have q2 : (1 : Int) * 2 ^ i < 2147483648 := by omega
    have q3 : (1 : Int) * 2 ^ i < 4294967296 := by omega
    have q4 : (1 : Int) * 2 ^ (i : Int).toNat < 4294967296 := by rw [Int.toNat_natCast]; exact q3
    have ha : a < 64 := by omega
    by_cases hc : whichC σ i = true
    · have ec : allF (seenC σ (ga σ 2 (i : Int)) (ga σ 3 (i : Int))) 0 (gg σ 7 3).toNat = true := hc
      simp (disch := first | with_reducible assumption | omega | exact ga_in _ _ _ | exact gg_in _ _ _ | (unfold InR; omega) | (unfold InL; omega) | (simp only [shC_0, shC_1, shC_2, shC_3, shC_4, shC_5, shC_6, shC_7, shC_8, shC_9, shC_10, shC_11, shC_12, shC_13, shC_14, shC_29, shC_58, shC_59, shC_60, shC_61, shC_62, shC_63, shC_64, shC_65, shC_66, shC_67, shC_68, shC_69, shC_70, shL_2, shL_3, shL_4, shL_5, shL_6, shL_8, shL_10, shL_12, shL_14, shL_29, shL_58, shL_60, shL_62, shL_63, shL_65, shL_66, shL_67, shL_68, shL_69, shL_70]; first | done | omega)) only [q101_4, q101_5, q101_6, q101_9, q101_12, q101_15, q101_16, q101_17, q101_20, q101_23, q101_24, q101_27, q101_28, q101_31, q101_34, q101_35, q101_38, q101_41, q101_44, q101_45, q101_46, q101_47, q101_48, q101_49, q101_50, shC_1, shR_1_3, shR_1_4, shC_2, shL_2, shC_3, shL_3, e, k89, k102 hO' hS, ec, Int.toNat_natCast, pushR_I, pushR_L, pushR_R, pushR_V, InR_gg, InR_ga, InR_wr, InL_gl, InR_b, b01, b01_0, if_true, if_false, not_true_eq_false, not_false_eq_true, and_true, true_and, and_self, Sum.inl.injEq, one0, Bool.false_eq_true]
      rw [q101_53]
      obtain ⟨z1, z2⟩ := orB_lt h0 h1
      refine (ih (i + 1) (orB a i) (by omega) z1 z2).trans ?_
      simp only [orF, hc, if_true]
    · have ec : allF (seenC σ (ga σ 2 (i : Int)) (ga σ 3 (i : Int))) 0 (gg σ 7 3).toNat = false := by simpa [whichC] using hc
      simp (disch := first | with_reducible assumption | omega | exact ga_in _ _ _ | exact gg_in _ _ _ | (unfold InR; omega) | (unfold InL; omega) | (simp only [shC_0, shC_1, shC_2, shC_3, shC_4, shC_5, shC_6, shC_7, shC_8, shC_9, shC_10, shC_11, shC_12, shC_13, shC_14, shC_29, shC_58, shC_59, shC_60, shC_61, shC_62, shC_63, shC_64, shC_65, shC_66, shC_67, shC_68, shC_69, shC_70, shL_2, shL_3, shL_4, shL_5, shL_6, shL_8, shL_10, shL_12, shL_14, shL_29, shL_58, shL_60, shL_62, shL_63, shL_65, shL_66, shL_67, shL_68, shL_69, shL_70]; first | done | omega)) only [q101_4, q101_5, q101_6, q101_9, q101_12, q101_15, q101_16, q101_17, q101_20, q101_23, q101_24, q101_27, q101_28, q101_31, q101_34, q101_35, q101_38, q101_41, q101_44, q101_45, q101_46, q101_47, q101_48, q101_49, q101_50, shC_1, shR_1_3, shR_1_4, shC_2, shL_2, shC_3, shL_3, e, k89, k102 hO' hS, ec, Bool.false_eq_true, pushR_I, pushR_L, pushR_R, pushR_V, InR_gg, InR_ga, InR_wr, InL_gl, InR_b, b01, b01_0, if_true, if_false, not_true_eq_false, not_false_eq_true, and_true, true_and, and_self, Sum.inl.injEq, one0, Bool.false_eq_true]
      rw [q101_53]
      refine (ih (i + 1) a (by omega) h0 (by rw [Int.pow_succ]; omega)).trans ?_
      simp only [orF, hc, Bool.false_eq_true, if_false]
theorem m101 (hO : TOK σ 1) (hS : SEEN σ) : Cal (d + 4) 101 [.inr (.inr (.inl 0))] σ (.inl (orF (whichC σ) 0 (gg σ 1 0).toNat 0)) σ := by
  have hO' := hO
  obtain ⟨o1, -⟩ := TOK1 hO
  refine Cal_in (ls := [.inr (.inr (.inl 0)), aU, aU]) rfl mna_101 mml_101 mhl_101 rfl rfl ?_
  simp (disch := first | with_reducible assumption | omega | exact ga_in _ _ _ | exact gg_in _ _ _ | (unfold InR; omega) | (unfold InL; omega) | (simp only [shC_0, shC_1, shC_2, shC_3, shC_4, shC_5, shC_6, shC_7, shC_8, shC_9, shC_10, shC_11, shC_12, shC_13, shC_14, shC_29, shC_58, shC_59, shC_60, shC_61, shC_62, shC_63, shC_64, shC_65, shC_66, shC_67, shC_68, shC_69, shC_70, shL_2, shL_3, shL_4, shL_5, shL_6, shL_8, shL_10, shL_12, shL_14, shL_29, shL_58, shL_60, shL_62, shL_63, shL_65, shL_66, shL_67, shL_68, shL_69, shL_70]; first | done | omega)) only [q101_0, q101_1, q101_2, q101_3, pushR_I, pushR_L, pushR_R, pushR_V, InR_gg, InR_ga, InR_wr, InL_gl, InR_b, b01, b01_0, if_true, if_false, not_true_eq_false, not_false_eq_true, and_true, true_and, and_self, Sum.inl.injEq, one0, Bool.false_eq_true]
  exact (l101 (d := d) hO' hS (gg σ 1 0).toNat 0 0 (by omega) (by omega) (by decide)).mpr ⟨rfl, rfl⟩
theorem k101 (hO : TOK σ 1) (hS : SEEN σ) : CalK (d + 4) 101 [.inr (.inr (.inl 0))] σ K = K (.inl (orF (whichC σ) 0 (gg σ 1 0).toNat 0)) σ := CalK_eq (m101 hO hS)
end NOW
