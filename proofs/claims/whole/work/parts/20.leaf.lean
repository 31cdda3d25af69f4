-- reading and writing the heap of numbers; the leaves of both programs
def wr (v : Int) : Int := (Int32.ofInt v).toInt
def wrL (v : Int) : Int := (Int64.ofInt v).toInt
theorem wr_id {v : Int} (h : InR v) : wr v = v := n32_ti h
theorem wrL_id {v : Int} (h : InL v) : wrL v = v := n64_ti h
theorem InR_gg (σ : SG) (k j : Nat) : InR (gg σ k j) = True := eq_true (n32_in _)
theorem InL_gl (σ : SG) (k j : Nat) : InL (gl σ k j) = True := eq_true (n64_in _)
theorem InR_wr (v : Int) : InR (wr v) = True := eq_true (n32_in _)
theorem gg_ug (σ : SG) (k j a b : Nat) (v : Int) : gg (ug σ k j v) a b = if a = k then (if b = j then wr v else gg σ a b) else gg σ a b := by
  unfold gg ug wr
  dsimp only
  split
  · split <;> rfl
  · rfl
theorem gg_ul (σ : SG) (k j a b : Nat) (v : Int) : gg (ul σ k j v) a b = gg σ a b := rfl
theorem gl_ug (σ : SG) (k j a b : Nat) (v : Int) : gl (ug σ k j v) a b = gl σ a b := rfl
theorem gl_ul (σ : SG) (k j a b : Nat) (v : Int) : gl (ul σ k j v) a b = if a = k then (if b = j then wrL v else gl σ a b) else gl σ a b := by
  unfold gl ul wrL
  dsimp only
  split
  · split <;> rfl
  · rfl
theorem gg_same (σ : SG) (k j : Nat) {v : Int} (h : InR v) : gg (ug σ k j v) k j = v := by rw [gg_ug, if_pos rfl, if_pos rfl, wr_id h]
theorem gg_ne (σ : SG) {k j a b : Nat} (v : Int) (h : ¬ (a = k ∧ b = j)) : gg (ug σ k j v) a b = gg σ a b := by
  rw [gg_ug]
  by_cases h1 : a = k
  · rw [if_pos h1]
    by_cases h2 : b = j
    · exact absurd ⟨h1, h2⟩ h
    · rw [if_neg h2]
  · rw [if_neg h1]
theorem pushR_I (a : Int) (st : List AV) : pushR (.inl a) st = .inl a :: st := rfl
theorem pushR_L (a : Int) (st : List AV) : pushR (.inr (.inl a)) st = .inr (.inl a) :: st := rfl
theorem pushR_R (a : Nat) (st : List AV) : pushR (.inr (.inr (.inl a))) st = .inr (.inr (.inl a)) :: st := rfl
theorem pushR_V (st : List AV) : pushR aU st = st := rfl
theorem b01 (P : Prop) [Decidable P] : ((if P then (1 : Int) else 0) = 0 ∨ (if P then (1 : Int) else 0) = 1) := by split <;> simp
theorem b01_0 (P : Prop) [Decidable P] : ((if P then (1 : Int) else 0) = 0) = ¬ P := by split <;> simp [*]
theorem InR_b (P : Prop) [Decidable P] : InR (if P then (1 : Int) else 0) = True := by apply eq_true; split <;> exact ⟨by omega, by omega⟩
-- what a lie lights, what an oven takes
def plI (u k : Int) : Int := if k < u then 2 * (u - k) else 0
def fiI (u k : Int) : Int := if k = 0 then plI u k + 4 else plI u k
def ltI (kind u k d : Int) : Int :=
  if kind = 0 then plI u k else if kind = 1 then fiI u k else if kind = 2 then (plI u k + 1) / 2 else if kind = 3 then (if 2 ≤ k then 0 else fiI u k)
  else if kind = 4 then (if d % 7 = 6 then plI u k + 6 else plI u k) else (if d % 10 = 0 then 2 * fiI u k else fiI u k)
def clI (x : Int) : Int := if x < 12 then x else 12
def tkI (kind x h : Int) : Int :=
  if kind = 0 then x else if kind = 1 then clI x else if kind = 2 then x / 2 else if kind = 3 then (if 1 ≤ x then x / 2 + 4 else 0)
  else if kind = 4 then (if h / 10 < clI x then clI x - h / 10 else 0) else (if 10 ≤ x then x + 5 else x)
def heI (h m : Int) : Int := if h + m < 99 then h + m else 99
def coI (h m : Int) : Int := if 7 * m < h then h - 7 * m else 0
section LEAF
variable {d : Nat} {σ : SG} {K : AV → SG → Prop}
theorem m86 {n lo hi : Int} (h1 : InR n) (h2 : InR lo) (h3 : InR hi) : Cal (d + 1) 86 [.inl n, .inl lo, .inl hi] σ (.inl (if lo ≤ n ∧ n ≤ hi then 1 else 0)) σ := by
  refine Cal_in rfl mna_86 mml_86 mhl_86 rfl rfl ?_
  simp only [q86_0, q86_1, q86_2, q86_5, q86_6, q86_7, q86_10, q86_11, q86_14, q86_15, h1, h2, h3]
  repeat' split
  all_goals (first | exact ⟨by congr 1; omega, rfl⟩ | skip)
  all_goals (simp; omega)
theorem k86 {n lo hi : Int} (h1 : InR n) (h2 : InR lo) (h3 : InR hi) : CalK (d + 1) 86 [.inl n, .inl lo, .inl hi] σ K = K (.inl (if lo ≤ n ∧ n ≤ hi then 1 else 0)) σ := CalK_eq (m86 h1 h2 h3)
theorem m89 {k : Nat} {i : Int} (hk : shC k = 100) (h1 : 0 ≤ i) (h2 : i < (shL k : Int)) : Cal (d + 1) 89 [.inr (.inr (.inl k)), .inl i] σ (.inl (gg σ k i.toNat)) σ := by
  have h3 := shL_le k
  refine Cal_in rfl mna_89 mml_89 mhl_89 rfl rfl ?_
  simp (disch := first | omega | (unfold InR; omega)) only [q89_0, q89_1, q89_4, q89_5, q89_8, q89_9, q89_10, q89_11, q89_14, q89_15, q89_16, q89_17, q89_20, q89_21, hk]
  rw [if_neg (by omega), if_neg (by omega)]
  exact ⟨rfl, rfl⟩
end LEAF
