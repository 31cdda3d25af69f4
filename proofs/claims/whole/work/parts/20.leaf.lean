-- reading and writing the heap of numbers; the leaves of both programs
def wr (v : Int) : Int := (Int32.ofInt v).toInt
def wrL (v : Int) : Int := (Int64.ofInt v).toInt
theorem wr_id {v : Int} (h : InR v) : wr v = v := n32_ti h
theorem wrL_id {v : Int} (h : InL v) : wrL v = v := n64_ti h
theorem InR_gg (σ : SG) (k j : Nat) : InR (gg σ k j) = True := eq_true (n32_in _)
theorem InR_ga (σ : SG) (k : Nat) (i : Int) : InR (ga σ k i) = True := eq_true (n32_in _)
theorem InL_gl (σ : SG) (k j : Nat) : InL (gl σ k j) = True := eq_true (n64_in _)
theorem InR_wr (v : Int) : InR (wr v) = True := eq_true (n32_in _)
theorem gg_ug (σ : SG) (k j a b : Nat) (v : Int) : gg (ug σ k j v) a b = if a = k then (if b = j then wr v else gg σ a b) else gg σ a b := by
  unfold gg ug wr
  dsimp only
  split
  · split <;> rfl
  · rfl
theorem gg_ul (σ : SG) (k j a b : Nat) (v : Int) : gg (ul σ k j v) a b = gg σ a b := rfl
theorem gl_ug (σ : SG) (k j a b : Nat) (v : Int) : gl (ug σ k j v) a b = gl σ a b := rfl
theorem gl_ul (σ : SG) (k j a b : Nat) (v : Int) : gl (ul σ k j v) a b = if a = k then (if b = j then wrL v else gl σ a b) else gl σ a b := by
  unfold gl ul wrL
  dsimp only
  split
  · split <;> rfl
  · rfl
theorem gg_ua (σ : SG) (k a b : Nat) (i v : Int) : gg (ua σ k i v) a b = if a = k then (if b = i.toNat then wr v else gg σ a b) else gg σ a b := gg_ug ..
theorem ga_ua (σ : SG) (k a : Nat) (i j v : Int) (hi : 0 ≤ i) (hj : 0 ≤ j) : ga (ua σ k i v) a j = if a = k then (if j = i then wr v else ga σ a j) else ga σ a j := by
  unfold ga ua
  rw [gg_ug]
  split
  · by_cases h : j = i
    · rw [if_pos h, if_pos (by rw [h])]
    · rw [if_neg h, if_neg (by omega)]
  · rfl
theorem ga_ug (σ : SG) (k a j : Nat) (i v : Int) (h : ¬ a = k) : ga (ug σ k j v) a i = ga σ a i := by
  unfold ga
  rw [gg_ug, if_neg h]
theorem gl_ua (σ : SG) (k a b : Nat) (i v : Int) : gl (ua σ k i v) a b = gl σ a b := rfl
theorem ga_ul (σ : SG) (k a j : Nat) (i v : Int) : ga (ul σ k j v) a i = ga σ a i := rfl
theorem pushR_I (a : Int) (st : List AV) : pushR (.inl a) st = .inl a :: st := rfl
theorem pushR_L (a : Int) (st : List AV) : pushR (.inr (.inl a)) st = .inr (.inl a) :: st := rfl
theorem pushR_R (a : Nat) (st : List AV) : pushR (.inr (.inr (.inl a))) st = .inr (.inr (.inl a)) :: st := rfl
theorem pushR_V (st : List AV) : pushR aU st = st := rfl
theorem b01 (P : Prop) [Decidable P] : ((if P then (1 : Int) else 0) = 0 ∨ (if P then (1 : Int) else 0) = 1) = True := by apply eq_true; split <;> simp
theorem b01_0 (P : Prop) [Decidable P] : ((if P then (1 : Int) else 0) = 0) = ¬ P := by split <;> simp [*]
theorem InR_b (P : Prop) [Decidable P] : InR (if P then (1 : Int) else 0) = True := by apply eq_true; split <;> exact ⟨by omega, by omega⟩
-- what a lie lights, what an oven takes
def plI (u k : Int) : Int := if k < u then 2 * (u - k) else 0
def fiI (u k : Int) : Int := if k = 0 then plI u k + 4 else plI u k
def ltI (kind u k d : Int) : Int :=
  if kind = 0 then plI u k else if kind = 1 then fiI u k else if kind = 2 then (plI u k + 1) / 2 else if kind = 3 then (if 2 ≤ k then 0 else fiI u k)
  else if kind = 4 then (if d % 7 = 6 then plI u k + 6 else plI u k) else (if d % 10 = 0 then 2 * fiI u k else fiI u k)
def clI (x : Int) : Int := if x < 12 then x else 12
def tkI (kind x h : Int) : Int :=
  if kind = 0 then x else if kind = 1 then clI x else if kind = 2 then x / 2 else if kind = 3 then (if 1 ≤ x then x / 2 + 4 else 0)
  else if kind = 4 then (if h / 10 < clI x then clI x - h / 10 else 0) else (if 10 ≤ x then x + 5 else x)
def heI (h m : Int) : Int := if h + m < 99 then h + m else 99
def coI (h m : Int) : Int := if 7 * m < h then h - 7 * m else 0
def hbP (bits n : Int) : Prop := bits / 2 ^ n.toNat % 2 = 1
theorem and1 {x : Int} (h : 0 ≤ x) : ((x.toNat &&& (1 : Int).toNat : Nat) : Int) = x % 2 := by
  obtain ⟨n, rfl⟩ := Int.eq_ofNat_of_zero_le h
  show ((n &&& 1 : Nat) : Int) = _
  rw [Nat.and_one_is_mod]
  rfl
theorem div_nn {x : Int} (h : 0 ≤ x) (n : Nat) : 0 ≤ x / 2 ^ n := Int.ediv_nonneg h (by have : (0 : Int) < 2 ^ n := Int.pow_pos (by omega); omega)
theorem div_le {x : Int} (h : 0 ≤ x) (n : Nat) : x / 2 ^ n ≤ x := Int.ediv_le_self _ h
section LEAF
variable {d : Nat} {σ : SG} {K : AV → SG → Prop}
theorem m82 : Cal (d + 1) 82 [.inr (.inr (.inl 0))] σ (.inl (-2)) (ug σ 0 10 (gg σ 0 10 + 1)) := by
  refine Cal_in rfl mna_82 mml_82 mhl_82 rfl rfl ?_
  repeat' (first | (simp (disch := first | assumption | omega | (unfold InR; omega) | (unfold InL; omega)) only [q82_0, q82_1, q82_2, q82_5, q82_6, q82_7, q82_10, q82_12, pushR_I, pushR_L, pushR_R, pushR_V, InR_gg, InR_ga, InR_wr, InL_gl, InR_b, b01, b01_0, if_true, if_false, not_true_eq_false, not_false_eq_true]; (try split)) | split)
  all_goals exact ⟨rfl, rfl⟩
theorem k82 : CalK (d + 1) 82 [.inr (.inr (.inl 0))] σ K = K (.inl (-2)) (ug σ 0 10 (gg σ 0 10 + 1)) := CalK_eq m82
theorem m83 : Cal (d + 1) 83 [.inr (.inr (.inl 0))] σ (.inl (-10)) (ug σ 0 10 (gg σ 0 10 + 1)) := by
  refine Cal_in rfl mna_83 mml_83 mhl_83 rfl rfl ?_
  repeat' (first | (simp (disch := first | assumption | omega | (unfold InR; omega) | (unfold InL; omega)) only [q83_0, q83_1, q83_2, q83_5, q83_6, q83_7, q83_10, q83_12, pushR_I, pushR_L, pushR_R, pushR_V, InR_gg, InR_ga, InR_wr, InL_gl, InR_b, b01, b01_0, if_true, if_false, not_true_eq_false, not_false_eq_true]; (try split)) | split)
  all_goals exact ⟨rfl, rfl⟩
theorem k83 : CalK (d + 1) 83 [.inr (.inr (.inl 0))] σ K = K (.inl (-10)) (ug σ 0 10 (gg σ 0 10 + 1)) := CalK_eq m83
theorem m84 : Cal (d + 1) 84 [.inr (.inr (.inl 0))] σ (.inl (-3)) (ug σ 0 11 (gg σ 0 11 + 1)) := by
  refine Cal_in rfl mna_84 mml_84 mhl_84 rfl rfl ?_
  repeat' (first | (simp (disch := first | assumption | omega | (unfold InR; omega) | (unfold InL; omega)) only [q84_0, q84_1, q84_2, q84_5, q84_6, q84_7, q84_10, q84_12, pushR_I, pushR_L, pushR_R, pushR_V, InR_gg, InR_ga, InR_wr, InL_gl, InR_b, b01, b01_0, if_true, if_false, not_true_eq_false, not_false_eq_true]; (try split)) | split)
  all_goals exact ⟨rfl, rfl⟩
theorem k84 : CalK (d + 1) 84 [.inr (.inr (.inl 0))] σ K = K (.inl (-3)) (ug σ 0 11 (gg σ 0 11 + 1)) := CalK_eq m84
theorem m85 : Cal (d + 1) 85 [.inr (.inr (.inl 0))] σ (.inl (-4)) (ug σ 0 12 (gg σ 0 12 + 1)) := by
  refine Cal_in rfl mna_85 mml_85 mhl_85 rfl rfl ?_
  repeat' (first | (simp (disch := first | assumption | omega | (unfold InR; omega) | (unfold InL; omega)) only [q85_0, q85_1, q85_2, q85_5, q85_6, q85_7, q85_10, q85_12, pushR_I, pushR_L, pushR_R, pushR_V, InR_gg, InR_ga, InR_wr, InL_gl, InR_b, b01, b01_0, if_true, if_false, not_true_eq_false, not_false_eq_true]; (try split)) | split)
  all_goals exact ⟨rfl, rfl⟩
theorem k85 : CalK (d + 1) 85 [.inr (.inr (.inl 0))] σ K = K (.inl (-4)) (ug σ 0 12 (gg σ 0 12 + 1)) := CalK_eq m85
theorem m86 {n lo hi : Int} (h1 : InR n) (h2 : InR lo) (h3 : InR hi) : Cal (d + 1) 86 [.inl n, .inl lo, .inl hi] σ (.inl (if lo ≤ n ∧ n ≤ hi then 1 else 0)) σ := by
  refine Cal_in rfl mna_86 mml_86 mhl_86 rfl rfl ?_
  repeat' (first | (simp (disch := first | assumption | omega | (unfold InR; omega) | (unfold InL; omega)) only [q86_0, q86_1, q86_2, q86_5, q86_6, q86_7, q86_10, q86_11, q86_14, q86_15, pushR_I, pushR_L, pushR_R, pushR_V, InR_gg, InR_ga, InR_wr, InL_gl, InR_b, b01, b01_0, if_true, if_false, not_true_eq_false, not_false_eq_true]; (try split)) | split)
  all_goals (refine ⟨?_, rfl⟩; congr 1; omega)
theorem k86 {n lo hi : Int} (h1 : InR n) (h2 : InR lo) (h3 : InR hi) : CalK (d + 1) 86 [.inl n, .inl lo, .inl hi] σ K = K (.inl (if lo ≤ n ∧ n ≤ hi then 1 else 0)) σ := CalK_eq (m86 h1 h2 h3)
theorem m88 {b n : Int} (h1 : 0 ≤ b ∧ b < 2147483648) (h2 : 0 ≤ n ∧ n ≤ 30) : Cal (d + 2) 88 [.inl b, .inl n] σ (.inl (if b / 2 ^ n.toNat % 2 = 1 then 1 else 0)) σ := by
  have e1 := div_nn h1.1 n.toNat
  have e2 := div_le h1.1 n.toNat
  refine Cal_in rfl mna_88 mml_88 mhl_88 rfl rfl ?_
  repeat' (first | (simp (disch := first | assumption | omega | (unfold InR; omega) | (unfold InL; omega)) only [q88_0, q88_1, q88_2, q88_4, q88_7, q88_10, q88_11, q88_12, q88_13, q88_14, q88_15, q88_16, q88_19, q88_20, q88_23, q88_24, pushR_I, pushR_L, pushR_R, pushR_V, InR_gg, InR_ga, InR_wr, InL_gl, InR_b, b01, b01_0, if_true, if_false, not_true_eq_false, not_false_eq_true, k86, and1 e1]; (try split)) | split)
  all_goals first | (refine ⟨?_, rfl⟩; congr 1; omega) | omega
theorem k88 {b n : Int} (h1 : 0 ≤ b ∧ b < 2147483648) (h2 : 0 ≤ n ∧ n ≤ 30) : CalK (d + 2) 88 [.inl b, .inl n] σ K = K (.inl (if b / 2 ^ n.toNat % 2 = 1 then 1 else 0)) σ := CalK_eq (m88 h1 h2)
theorem m89 {k : Nat} {i : Int} (hk : shC k = 100) (h1 : 0 ≤ i) (h2 : i < (shL k : Int)) : Cal (d + 1) 89 [.inr (.inr (.inl k)), .inl i] σ (.inl (ga σ k i)) σ := by
  have h3 := shL_le k
  refine Cal_in rfl mna_89 mml_89 mhl_89 rfl rfl ?_
  repeat' (first | (simp (disch := first | assumption | omega | (unfold InR; omega) | (unfold InL; omega)) only [q89_0, q89_1, q89_4, q89_5, q89_8, q89_9, q89_10, q89_11, q89_14, q89_15, q89_16, q89_17, q89_20, q89_21, pushR_I, pushR_L, pushR_R, pushR_V, InR_gg, InR_ga, InR_wr, InL_gl, InR_b, b01, b01_0, if_true, if_false, not_true_eq_false, not_false_eq_true]; (try split)) | split)
  all_goals first | exact ⟨rfl, rfl⟩ | omega
theorem k89 {k : Nat} {i : Int} (hk : shC k = 100) (h1 : 0 ≤ i) (h2 : i < (shL k : Int)) : CalK (d + 1) 89 [.inr (.inr (.inl k)), .inl i] σ K = K (.inl (ga σ k i)) σ := CalK_eq (m89 hk h1 h2)
theorem m90 {k : Nat} {i v : Int} (hk : shC k = 100) (h1 : 0 ≤ i) (h2 : i < (shL k : Int)) : Cal (d + 1) 90 [.inr (.inr (.inl k)), .inl i, .inl v] σ aU (ua σ k i v) := by
  have h3 := shL_le k
  refine Cal_in rfl mna_90 mml_90 mhl_90 rfl rfl ?_
  repeat' (first | (simp (disch := first | assumption | omega | (unfold InR; omega) | (unfold InL; omega)) only [q90_0, q90_1, q90_4, q90_5, q90_8, q90_9, q90_10, q90_11, q90_14, q90_15, q90_16, q90_17, q90_18, pushR_I, pushR_L, pushR_R, pushR_V, InR_gg, InR_ga, InR_wr, InL_gl, InR_b, b01, b01_0, if_true, if_false, not_true_eq_false, not_false_eq_true]; (try split)) | split)
  all_goals first | exact ⟨rfl, rfl⟩ | omega
theorem k90 {k : Nat} {i v : Int} (hk : shC k = 100) (h1 : 0 ≤ i) (h2 : i < (shL k : Int)) : CalK (d + 1) 90 [.inr (.inr (.inl k)), .inl i, .inl v] σ K = K aU (ua σ k i v) := CalK_eq (m90 hk h1 h2)
theorem m94 {kind u k x : Int} (h0 : 0 ≤ kind ∧ kind ≤ 5) (hu : 0 ≤ u ∧ u ≤ 1000) (hk : 0 ≤ k ∧ k ≤ 1000) (hd : 0 ≤ x ∧ x ≤ 1000000) : Cal (d + 1) 94 [.inl kind, .inl u, .inl k, .inl x] σ (.inl (ltI kind u k x)) σ := by
  have hz : kind = 0 ∨ kind = 1 ∨ kind = 2 ∨ kind = 3 ∨ kind = 4 ∨ kind = 5 := by omega
  refine Cal_in rfl mna_94 mml_94 mhl_94 rfl rfl ?_
  unfold ltI fiI plI
  rcases hz with rfl | rfl | rfl | rfl | rfl | rfl
  all_goals repeat' (first | (simp (disch := first | assumption | omega | (unfold InR; omega) | (unfold InL; omega)) only [q94_0, q94_1, q94_2, q94_5, q94_6, q94_7, q94_8, q94_9, q94_10, q94_13, q94_14, q94_16, q94_17, q94_20, q94_22, q94_23, q94_24, q94_27, q94_29, q94_31, q94_32_0, q94_32_1, q94_32_2, q94_32_3, q94_32_4, q94_32_5, q94_72, q94_74, q94_75, q94_77, q94_78, q94_80, q94_81, q94_82, q94_83, q94_84, q94_85, q94_86, q94_87, q94_90, q94_91, q94_94, q94_96, q94_97, q94_98, q94_100, q94_101, q94_103, q94_106, q94_108, q94_110, q94_111, q94_114, q94_116, q94_117, q94_118, q94_120, q94_121, q94_124, q94_125, q94_127, q94_128, q94_131, q94_133, q94_134, q94_135, pushR_I, pushR_L, pushR_R, pushR_V, InR_gg, InR_ga, InR_wr, InL_gl, InR_b, b01, b01_0, if_true, if_false, not_true_eq_false, not_false_eq_true]; (try split)) | split)
  all_goals first | (refine ⟨?_, rfl⟩; congr 1; omega) | omega
theorem k94 {kind u k x : Int} (h0 : 0 ≤ kind ∧ kind ≤ 5) (hu : 0 ≤ u ∧ u ≤ 1000) (hk : 0 ≤ k ∧ k ≤ 1000) (hd : 0 ≤ x ∧ x ≤ 1000000) : CalK (d + 1) 94 [.inl kind, .inl u, .inl k, .inl x] σ K = K (.inl (ltI kind u k x)) σ := CalK_eq (m94 h0 hu hk hd)
theorem m95 {kind x h : Int} (h0 : 0 ≤ kind ∧ kind ≤ 5) (hx : 0 ≤ x ∧ x ≤ 10000) (hh : 0 ≤ h ∧ h ≤ 10000) : Cal (d + 1) 95 [.inl kind, .inl x, .inl h] σ (.inl (tkI kind x h)) σ := by
  have hz : kind = 0 ∨ kind = 1 ∨ kind = 2 ∨ kind = 3 ∨ kind = 4 ∨ kind = 5 := by omega
  refine Cal_in rfl mna_95 mml_95 mhl_95 rfl rfl ?_
  unfold tkI clI
  rcases hz with rfl | rfl | rfl | rfl | rfl | rfl
  all_goals repeat' (first | (simp (disch := first | assumption | omega | (unfold InR; omega) | (unfold InL; omega)) only [q95_0, q95_1, q95_3, q95_6, q95_7, q95_10, q95_12, q95_13, q95_14, q95_15, q95_16, q95_18, q95_19_0, q95_19_1, q95_19_2, q95_19_3, q95_19_4, q95_19_5, q95_56, q95_57, q95_58, q95_59, q95_60, q95_62, q95_63, q95_64, q95_65, q95_68, q95_70, q95_71, q95_72, q95_75, q95_77, q95_78, q95_79, q95_80, q95_82, q95_83, q95_86, q95_87, q95_88, q95_90, q95_91, q95_92, q95_95, q95_96, q95_97, q95_98, q95_100, q95_103, q95_104, q95_105, q95_106, q95_109, q95_110, q95_111, q95_112, pushR_I, pushR_L, pushR_R, pushR_V, InR_gg, InR_ga, InR_wr, InL_gl, InR_b, b01, b01_0, if_true, if_false, not_true_eq_false, not_false_eq_true]; (try split)) | split)
  all_goals first | (refine ⟨?_, rfl⟩; congr 1; omega) | omega
theorem k95 {kind x h : Int} (h0 : 0 ≤ kind ∧ kind ≤ 5) (hx : 0 ≤ x ∧ x ≤ 10000) (hh : 0 ≤ h ∧ h ≤ 10000) : CalK (d + 1) 95 [.inl kind, .inl x, .inl h] σ K = K (.inl (tkI kind x h)) σ := CalK_eq (m95 h0 hx hh)
theorem m96 {h x : Int} (h1 : -100000 ≤ h ∧ h ≤ 100000) (h2 : -100000 ≤ x ∧ x ≤ 100000) : Cal (d + 1) 96 [.inl h, .inl x] σ (.inl (heI h x)) σ := by
  refine Cal_in rfl mna_96 mml_96 mhl_96 rfl rfl ?_
  unfold heI
  repeat' (first | (simp (disch := first | assumption | omega | (unfold InR; omega) | (unfold InL; omega)) only [q96_0, q96_1, q96_2, q96_3, q96_5, q96_8, q96_9, q96_10, q96_11, q96_14, q96_16, pushR_I, pushR_L, pushR_R, pushR_V, InR_gg, InR_ga, InR_wr, InL_gl, InR_b, b01, b01_0, if_true, if_false, not_true_eq_false, not_false_eq_true]; (try split)) | split)
  all_goals exact ⟨rfl, rfl⟩
theorem k96 {h x : Int} (h1 : -100000 ≤ h ∧ h ≤ 100000) (h2 : -100000 ≤ x ∧ x ≤ 100000) : CalK (d + 1) 96 [.inl h, .inl x] σ K = K (.inl (heI h x)) σ := CalK_eq (m96 h1 h2)
theorem m97 {h x : Int} (h1 : InR h) (h2 : -100000 ≤ x ∧ x ≤ 100000) : Cal (d + 1) 97 [.inl h, .inl x] σ (.inl (coI h x)) σ := by
  refine Cal_in rfl mna_97 mml_97 mhl_97 rfl rfl ?_
  unfold coI
  repeat' (first | (simp (disch := first | assumption | omega | (unfold InR; omega) | (unfold InL; omega)) only [q97_0, q97_1, q97_3, q97_4, q97_5, q97_8, q97_9, q97_11, q97_12, q97_13, q97_14, q97_17, q97_18, pushR_I, pushR_L, pushR_R, pushR_V, InR_gg, InR_ga, InR_wr, InL_gl, InR_b, b01, b01_0, if_true, if_false, not_true_eq_false, not_false_eq_true]; (try split)) | split)
  all_goals exact ⟨rfl, rfl⟩
theorem k97 {h x : Int} (h1 : InR h) (h2 : -100000 ≤ x ∧ x ≤ 100000) : CalK (d + 1) 97 [.inl h, .inl x] σ K = K (.inl (coI h x)) σ := CalK_eq (m97 h1 h2)
theorem m98 {h : Int} (h1 : InR h) : Cal (d + 1) 98 [.inl h] σ (.inl (if 20 ≤ h then 1 else 0)) σ := by
  refine Cal_in rfl mna_98 mml_98 mhl_98 rfl rfl ?_
  repeat' (first | (simp (disch := first | assumption | omega | (unfold InR; omega) | (unfold InL; omega)) only [q98_0, q98_1, q98_3, q98_6, q98_7, q98_10, q98_11, pushR_I, pushR_L, pushR_R, pushR_V, InR_gg, InR_ga, InR_wr, InL_gl, InR_b, b01, b01_0, if_true, if_false, not_true_eq_false, not_false_eq_true]; (try split)) | split)
  all_goals (refine ⟨?_, rfl⟩; congr 1; omega)
theorem k98 {h : Int} (h1 : InR h) : CalK (d + 1) 98 [.inl h] σ K = K (.inl (if 20 ≤ h then 1 else 0)) σ := CalK_eq (m98 h1)
theorem m99 {h : Int} (h1 : InR h) : Cal (d + 1) 99 [.inl h] σ (.inl (if h < 9 then h + 1 else 9)) σ := by
  refine Cal_in rfl mna_99 mml_99 mhl_99 rfl rfl ?_
  repeat' (first | (simp (disch := first | assumption | omega | (unfold InR; omega) | (unfold InL; omega)) only [q99_0, q99_1, q99_3, q99_6, q99_7, q99_8, q99_9, q99_12, q99_14, pushR_I, pushR_L, pushR_R, pushR_V, InR_gg, InR_ga, InR_wr, InL_gl, InR_b, b01, b01_0, if_true, if_false, not_true_eq_false, not_false_eq_true]; (try split)) | split)
  all_goals (refine ⟨?_, rfl⟩; congr 1; omega)
theorem k99 {h : Int} (h1 : InR h) : CalK (d + 1) 99 [.inl h] σ K = K (.inl (if h < 9 then h + 1 else 9)) σ := CalK_eq (m99 h1)
theorem m203 {a b : Int} (h1 : InR a) (h2 : InR b) : Cal (d + 1) 203 [.inl a, .inl b] σ (.inl (if a < b then b else a)) σ := by
  refine Cal_in rfl mna_203 mml_203 mhl_203 rfl rfl ?_
  repeat' (first | (simp (disch := first | assumption | omega | (unfold InR; omega) | (unfold InL; omega)) only [q203_0, q203_1, q203_2, q203_5, q203_6, q203_9, q203_10, pushR_I, pushR_L, pushR_R, pushR_V, InR_gg, InR_ga, InR_wr, InL_gl, InR_b, b01, b01_0, if_true, if_false, not_true_eq_false, not_false_eq_true]; (try split)) | split)
  all_goals (refine ⟨?_, rfl⟩; congr 1; omega)
theorem k203 {a b : Int} (h1 : InR a) (h2 : InR b) : CalK (d + 1) 203 [.inl a, .inl b] σ K = K (.inl (if a < b then b else a)) σ := CalK_eq (m203 h1 h2)
-- the reference's leaves
theorem m116 {n lo hi : Int} (h1 : InR n) (h2 : InR lo) (h3 : InR hi) : Cal (d + 1) 116 [.inl n, .inl lo, .inl hi] σ (.inl (if lo ≤ n ∧ n ≤ hi then 1 else 0)) σ := by
  refine Cal_in rfl mna_116 mml_116 mhl_116 rfl rfl ?_
  repeat' (first | (simp (disch := first | assumption | omega | (unfold InR; omega) | (unfold InL; omega)) only [q116_0, q116_1, q116_2, q116_5, q116_6, q116_7, q116_10, q116_11, q116_14, q116_15, pushR_I, pushR_L, pushR_R, pushR_V, InR_gg, InR_ga, InR_wr, InL_gl, InR_b, b01, b01_0, if_true, if_false, not_true_eq_false, not_false_eq_true]; (try split)) | split)
  all_goals (refine ⟨?_, rfl⟩; congr 1; omega)
theorem k116 {n lo hi : Int} (h1 : InR n) (h2 : InR lo) (h3 : InR hi) : CalK (d + 1) 116 [.inl n, .inl lo, .inl hi] σ K = K (.inl (if lo ≤ n ∧ n ≤ hi then 1 else 0)) σ := CalK_eq (m116 h1 h2 h3)
theorem m117 {b n : Int} (h1 : 0 ≤ b ∧ b < 2147483648) (h2 : 0 ≤ n ∧ n ≤ 30) : Cal (d + 1) 117 [.inl b, .inl n] σ (.inl (if b / 2 ^ n.toNat % 2 = 1 then 1 else 0)) σ := by
  have e1 := div_nn h1.1 n.toNat
  have e2 := div_le h1.1 n.toNat
  refine Cal_in rfl mna_117 mml_117 mhl_117 rfl rfl ?_
  repeat' (first | (simp (disch := first | assumption | omega | (unfold InR; omega) | (unfold InL; omega)) only [q117_0, q117_1, q117_2, q117_3, q117_4, q117_5, q117_6, q117_9, q117_10, q117_13, q117_14, pushR_I, pushR_L, pushR_R, pushR_V, InR_gg, InR_ga, InR_wr, InL_gl, InR_b, b01, b01_0, if_true, if_false, not_true_eq_false, not_false_eq_true, and1 e1]; (try split)) | split)
  all_goals first | (refine ⟨?_, rfl⟩; congr 1; omega) | omega
theorem k117 {b n : Int} (h1 : 0 ≤ b ∧ b < 2147483648) (h2 : 0 ≤ n ∧ n ≤ 30) : CalK (d + 1) 117 [.inl b, .inl n] σ K = K (.inl (if b / 2 ^ n.toNat % 2 = 1 then 1 else 0)) σ := CalK_eq (m117 h1 h2)
theorem m124 {u k : Int} (hu : 0 ≤ u ∧ u ≤ 1000) (hk : 0 ≤ k ∧ k ≤ 1000) : Cal (d + 1) 124 [.inl u, .inl k] σ (.inl (plI u k)) σ := by
  refine Cal_in rfl mna_124 mml_124 mhl_124 rfl rfl ?_
  unfold plI
  repeat' (first | (simp (disch := first | assumption | omega | (unfold InR; omega) | (unfold InL; omega)) only [q124_0, q124_1, q124_2, q124_5, q124_6, q124_7, q124_8, q124_9, q124_10, q124_13, q124_14, pushR_I, pushR_L, pushR_R, pushR_V, InR_gg, InR_ga, InR_wr, InL_gl, InR_b, b01, b01_0, if_true, if_false, not_true_eq_false, not_false_eq_true]; (try split)) | split)
  all_goals exact ⟨rfl, rfl⟩
theorem k124 {u k : Int} (hu : 0 ≤ u ∧ u ≤ 1000) (hk : 0 ≤ k ∧ k ≤ 1000) : CalK (d + 1) 124 [.inl u, .inl k] σ K = K (.inl (plI u k)) σ := CalK_eq (m124 hu hk)
theorem plI_b {u k : Int} (hu : 0 ≤ u ∧ u ≤ 1000) (hk : 0 ≤ k ∧ k ≤ 1000) : 0 ≤ plI u k ∧ plI u k ≤ 2000 := by unfold plI; split <;> omega
theorem m125 {u k : Int} (hu : 0 ≤ u ∧ u ≤ 1000) (hk : 0 ≤ k ∧ k ≤ 1000) : Cal (d + 2) 125 [.inl u, .inl k] σ (.inl (fiI u k)) σ := by
  refine Cal_in rfl mna_125 mml_125 mhl_125 rfl rfl ?_
  unfold fiI
  repeat' (first | (simp (disch := first | assumption | omega | (unfold InR; omega) | (unfold InL; omega)) only [q125_0, q125_1, q125_2, q125_5, q125_6, q125_9, q125_10, q125_13, q125_14, q125_15, pushR_I, pushR_L, pushR_R, pushR_V, InR_gg, InR_ga, InR_wr, InL_gl, InR_b, b01, b01_0, if_true, if_false, not_true_eq_false, not_false_eq_true, k124]; (try split)) | split)
  all_goals (refine ⟨?_, rfl⟩; congr 1; omega)
theorem k125 {u k : Int} (hu : 0 ≤ u ∧ u ≤ 1000) (hk : 0 ≤ k ∧ k ≤ 1000) : CalK (d + 2) 125 [.inl u, .inl k] σ K = K (.inl (fiI u k)) σ := CalK_eq (m125 hu hk)
theorem fiI_b {u k : Int} (hu : 0 ≤ u ∧ u ≤ 1000) (hk : 0 ≤ k ∧ k ≤ 1000) : 0 ≤ fiI u k ∧ fiI u k ≤ 2004 := by have := plI_b hu hk; unfold fiI; split <;> omega
theorem m126 {kind u k x : Int} (h0 : 0 ≤ kind ∧ kind ≤ 5) (hu : 0 ≤ u ∧ u ≤ 1000) (hk : 0 ≤ k ∧ k ≤ 1000) (hd : 0 ≤ x ∧ x ≤ 1000000) : Cal (d + 3) 126 [.inl kind, .inl u, .inl k, .inl x] σ (.inl (ltI kind u k x)) σ := by
  have hz : kind = 0 ∨ kind = 1 ∨ kind = 2 ∨ kind = 3 ∨ kind = 4 ∨ kind = 5 := by omega
  have b1 := plI_b hu hk
  have b2 := fiI_b hu hk
  refine Cal_in rfl mna_126 mml_126 mhl_126 rfl rfl ?_
  unfold ltI
  rcases hz with rfl | rfl | rfl | rfl | rfl | rfl
  · rw [show ((0 : Int)) = 0 from rfl]
    simp (disch := first | assumption | omega | (unfold InR; omega) | (unfold InL; omega)) only [q126_0, q126_1_D (a := 0) (Or.inl (by omega)) ⟨by omega, by omega⟩, q126_112, q126_113, q126_114, q126_117, k124, pushR_I, pushR_L, pushR_R, pushR_V, InR_gg, InR_ga, InR_wr, InL_gl, InR_b, b01, b01_0, if_true, if_false, not_true_eq_false, not_false_eq_true]
    exact ⟨rfl, rfl⟩
  all_goals repeat' (first | (simp (disch := first | assumption | omega | (unfold InR; omega) | (unfold InL; omega)) only [q126_0, q126_1_1, q126_1_2, q126_1_3, q126_1_4, q126_1_5, q126_36, q126_37, q126_38, q126_41, q126_42, q126_43, q126_44, q126_47, q126_48, q126_49, q126_50, q126_51, q126_52, q126_53, q126_54, q126_57, q126_58, q126_61, q126_62, q126_63, q126_66, q126_67, q126_68, q126_69, q126_72, q126_73, q126_75, q126_76, q126_78, q126_81, q126_83, q126_86, q126_87, q126_88, q126_89, q126_90, q126_92, q126_93, q126_96, q126_97, q126_98, q126_99, q126_102, q126_103, q126_106, q126_107, q126_108, q126_111, q126_112, q126_113, q126_114, q126_117, pushR_I, pushR_L, pushR_R, pushR_V, InR_gg, InR_ga, InR_wr, InL_gl, InR_b, b01, b01_0, if_true, if_false, not_true_eq_false, not_false_eq_true, k124, k125]; (try split)) | split)
  all_goals first | (refine ⟨?_, rfl⟩; congr 1; omega) | omega
theorem k126 {kind u k x : Int} (h0 : 0 ≤ kind ∧ kind ≤ 5) (hu : 0 ≤ u ∧ u ≤ 1000) (hk : 0 ≤ k ∧ k ≤ 1000) (hd : 0 ≤ x ∧ x ≤ 1000000) : CalK (d + 3) 126 [.inl kind, .inl u, .inl k, .inl x] σ K = K (.inl (ltI kind u k x)) σ := CalK_eq (m126 h0 hu hk hd)
theorem m127 {x : Int} (h1 : InR x) : Cal (d + 1) 127 [.inl x] σ (.inl (clI x)) σ := by
  refine Cal_in rfl mna_127 mml_127 mhl_127 rfl rfl ?_
  unfold clI
  repeat' (first | (simp (disch := first | assumption | omega | (unfold InR; omega) | (unfold InL; omega)) only [q127_0, q127_1, q127_3, q127_6, q127_7, q127_10, q127_12, pushR_I, pushR_L, pushR_R, pushR_V, InR_gg, InR_ga, InR_wr, InL_gl, InR_b, b01, b01_0, if_true, if_false, not_true_eq_false, not_false_eq_true]; (try split)) | split)
  all_goals (refine ⟨?_, rfl⟩; congr 1; omega)
theorem k127 {x : Int} (h1 : InR x) : CalK (d + 1) 127 [.inl x] σ K = K (.inl (clI x)) σ := CalK_eq (m127 h1)
theorem m128 {kind x h : Int} (h0 : 0 ≤ kind ∧ kind ≤ 5) (hx : 0 ≤ x ∧ x ≤ 10000) (hh : 0 ≤ h ∧ h ≤ 10000) : Cal (d + 2) 128 [.inl kind, .inl x, .inl h] σ (.inl (tkI kind x h)) σ := by
  have hz : kind = 0 ∨ kind = 1 ∨ kind = 2 ∨ kind = 3 ∨ kind = 4 ∨ kind = 5 := by omega
  have b1 : 0 ≤ clI x ∧ clI x ≤ 12 := by unfold clI; split <;> omega
  refine Cal_in rfl mna_128 mml_128 mhl_128 rfl rfl ?_
  unfold tkI
  rcases hz with rfl | rfl | rfl | rfl | rfl | rfl
  · simp (disch := first | assumption | omega | (unfold InR; omega) | (unfold InL; omega)) only [q128_0, q128_1_D (a := 0) (Or.inl (by omega)) ⟨by omega, by omega⟩, q128_98, q128_99, pushR_I, pushR_L, pushR_R, pushR_V, InR_gg, InR_ga, InR_wr, InL_gl, InR_b, b01, b01_0, if_true, if_false, not_true_eq_false, not_false_eq_true]
    exact ⟨rfl, rfl⟩
  all_goals repeat' (first | (simp (disch := first | assumption | omega | (unfold InR; omega) | (unfold InL; omega)) only [q128_0, q128_1_1, q128_1_2, q128_1_3, q128_1_4, q128_1_5, q128_36, q128_37, q128_40, q128_41, q128_42, q128_43, q128_44, q128_45, q128_46, q128_49, q128_50, q128_51, q128_52, q128_53, q128_54, q128_57, q128_58, q128_59, q128_60, q128_63, q128_64, q128_66, q128_67, q128_70, q128_71, q128_74, q128_75, q128_77, q128_78, q128_79, q128_82, q128_83, q128_84, q128_85, q128_87, q128_90, q128_91, q128_92, q128_93, q128_96, q128_97, q128_98, q128_99, pushR_I, pushR_L, pushR_R, pushR_V, InR_gg, InR_ga, InR_wr, InL_gl, InR_b, b01, b01_0, if_true, if_false, not_true_eq_false, not_false_eq_true, k127]; (try split)) | split)
  all_goals first | (refine ⟨?_, rfl⟩; congr 1; omega) | omega
theorem k128 {kind x h : Int} (h0 : 0 ≤ kind ∧ kind ≤ 5) (hx : 0 ≤ x ∧ x ≤ 10000) (hh : 0 ≤ h ∧ h ≤ 10000) : CalK (d + 2) 128 [.inl kind, .inl x, .inl h] σ K = K (.inl (tkI kind x h)) σ := CalK_eq (m128 h0 hx hh)
end LEAF
