-- the state that both hold, and how each holds it
/-- the class's town t holds the row g -/
def TRc (σ : SG) (t : Nat) (g : Int → Int) : Prop :=
  (gg σ t 0 = g 13 ∧ gg σ t 1 = g 28 ∧ gg σ t 2 = g 0) ∧
  (∀ l : Int, 0 ≤ l → l < g 13 → ga σ (t + 1) l = g (14 + l) ∧ ga σ (t + 2) l = g (21 + l) ∧ ga σ (t + 3) l = g (6 + l)) ∧
  (∀ o : Int, 0 ≤ o → o < g 28 → ga σ (t + 4) o = g (29 + o) ∧ ga σ (t + 5) o = g (1 + o)) ∧
  (gg σ (t + 6) 3 = g 34 ∧ ∀ i : Int, 0 ≤ i → i < 5 * g 34 → ga σ (t + 7) i = g (35 + i)) ∧
  (gg σ (t + 8) 3 = g 60 ∧ ∀ i : Int, 0 ≤ i → i < 5 * g 60 → ga σ (t + 9) i = g (61 + i)) ∧
  (gg σ (t + 10) 3 = g 91 ∧ ∀ i : Int, 0 ≤ i → i < 4 * g 91 → ga σ (t + 11) i = g (92 + i)) ∧
  (gg σ (t + 12) 1 = g 116 ∧ ∀ p : Int, 0 ≤ p → p < g 116 → (∀ o : Int, 0 ≤ o → o < g 28 → ga σ (t + 13) (13 * p + o) = g (118 + 13 * p + o)) ∧ (∀ l : Int, 0 ≤ l → l < g 13 → ga σ (t + 13) (13 * p + 5 + l) = g (123 + 13 * p + l)) ∧ ga σ (t + 13) (13 * p + 12) = g (117 + 13 * p))
/-- the bounds of a row -/
def GOK (g : Int → Int) : Prop :=
  (0 ≤ g 13 ∧ g 13 ≤ 7) ∧ (0 ≤ g 28 ∧ g 28 ≤ 5) ∧ (0 ≤ g 0 ∧ g 0 ≤ 100000) ∧
  (∀ l : Int, 0 ≤ l → l < g 13 → (0 ≤ g (14 + l) ∧ g (14 + l) ≤ 5) ∧ (1 ≤ g (21 + l) ∧ g (21 + l) ≤ 9) ∧ (0 ≤ g (6 + l) ∧ g (6 + l) ≤ 9)) ∧
  (∀ o : Int, 0 ≤ o → o < g 28 → (0 ≤ g (29 + o) ∧ g (29 + o) ≤ 5) ∧ (0 ≤ g (1 + o) ∧ g (1 + o) ≤ 99)) ∧
  ((0 ≤ g 34 ∧ g 34 ≤ 5) ∧ ∀ i : Int, 0 ≤ i → i < g 34 → (0 ≤ g (35 + 5 * i) ∧ g (35 + 5 * i) < g 28) ∧ (0 ≤ g (36 + 5 * i) ∧ g (36 + 5 * i) ≤ 99) ∧ (0 ≤ g (37 + 5 * i) ∧ g (37 + 5 * i) ≤ 9) ∧ (0 ≤ g (38 + 5 * i) ∧ g (38 + 5 * i) ≤ 99) ∧ (0 ≤ g (39 + 5 * i) ∧ g (39 + 5 * i) ≤ 60)) ∧
  ((0 ≤ g 60 ∧ g 60 ≤ 6) ∧ ∀ i : Int, 0 ≤ i → i < g 60 → (0 ≤ g (61 + 5 * i) ∧ g (61 + 5 * i) < g 13) ∧ (1 ≤ g (62 + 5 * i) ∧ g (62 + 5 * i) ≤ 9) ∧ (0 ≤ g (63 + 5 * i) ∧ g (63 + 5 * i) ≤ 9) ∧ (0 ≤ g (64 + 5 * i) ∧ g (64 + 5 * i) ≤ 99) ∧ (0 ≤ g (65 + 5 * i) ∧ g (65 + 5 * i) ≤ 60)) ∧
  ((0 ≤ g 91 ∧ g 91 ≤ 6) ∧ ∀ i : Int, 0 ≤ i → i < g 91 → (0 ≤ g (92 + 4 * i) ∧ g (92 + 4 * i) < g 28) ∧ (0 ≤ g (93 + 4 * i) ∧ g (93 + 4 * i) ≤ 99) ∧ (0 ≤ g (94 + 4 * i) ∧ g (94 + 4 * i) ≤ 60) ∧ (0 ≤ g (95 + 4 * i) ∧ g (95 + 4 * i) ≤ 60)) ∧
  ((0 ≤ g 116 ∧ g 116 ≤ 8) ∧ ∀ p : Int, 0 ≤ p → p < g 116 → (0 ≤ g (117 + 13 * p) ∧ g (117 + 13 * p) ≤ 9999) ∧ (∀ o : Int, 0 ≤ o → o < g 28 → 0 ≤ g (118 + 13 * p + o) ∧ g (118 + 13 * p + o) ≤ 99) ∧ (∀ l : Int, 0 ≤ l → l < g 13 → 0 ≤ g (123 + 13 * p + l) ∧ g (123 + 13 * p + l) ≤ 9))
/-- the tables' sizes -/
def TC (σ : SG) (t : Nat) : Prop := (gg σ (t + 6) 0 = 5 ∧ gg σ (t + 6) 1 = 5) ∧ (gg σ (t + 8) 0 = 6 ∧ gg σ (t + 8) 1 = 5) ∧ (gg σ (t + 10) 0 = 6 ∧ gg σ (t + 10) 1 = 4)
/-- 0 the row, 1 and 2 the images, 3 the text, 4: kept 0, kept 1, length, bad, no, full, above, below -/
def CR (σ : SG) (S : Nat → Int → Int) : Prop :=
  TRc σ 1 (S 0) ∧ (S 4 0 = 1 → TRc σ 30 (S 1)) ∧ (S 4 1 = 1 → TRc σ 44 (S 2)) ∧
  (gg σ 58 0 = S 4 0 ∧ gg σ 58 1 = S 4 1) ∧
  (gg σ 59 1 = S 4 2 ∧ ∀ i : Int, 0 ≤ i → i < S 4 2 → ga σ 60 i = S 3 i) ∧
  (gg σ 0 10 = S 4 3 ∧ gg σ 0 11 = S 4 4 ∧ gg σ 0 12 = S 4 5) ∧ (gl σ 0 8 = S 4 6 ∧ gl σ 0 9 = S 4 7) ∧ TC σ 1 ∧ TC σ 15 ∧ TC σ 30 ∧ TC σ 44
def MR (σ : SG) (S : Nat → Int → Int) : Prop :=
  (∀ i : Int, 0 ≤ i → i < 221 → ga σ 72 i = S 0 i) ∧ (S 4 0 = 1 → ∀ i : Int, 0 ≤ i → i < 221 → ga σ 75 i = S 1 i) ∧ (S 4 1 = 1 → ∀ i : Int, 0 ≤ i → i < 221 → ga σ 75 (221 + i) = S 2 i) ∧
  (gg σ 76 0 = S 4 0 ∧ gg σ 76 1 = S 4 1) ∧
  (gg σ 71 9 = S 4 2 ∧ ∀ i : Int, 0 ≤ i → i < S 4 2 → ga σ 78 i = S 3 i) ∧
  (ga σ 77 0 = S 4 3 ∧ ga σ 77 1 = S 4 4 ∧ ga σ 77 2 = S 4 5) ∧ (gl σ 71 6 = S 4 6 ∧ gl σ 71 7 = S 4 7)
def SOK (S : Nat → Int → Int) : Prop :=
  GOK (S 0) ∧ (S 4 0 = 1 → GOK (S 1)) ∧ (S 4 1 = 1 → GOK (S 2)) ∧ (S 0 0 ≤ 9999 ∧ (S 4 0 = 1 → S 1 0 ≤ 9999) ∧ (S 4 1 = 1 → S 2 0 ≤ 9999)) ∧ (S 4 0 = 0 ∨ S 4 0 = 1) ∧ (S 4 1 = 0 ∨ S 4 1 = 1) ∧ ((0 ≤ S 4 2 ∧ S 4 2 ≤ 150) ∧ ∀ i : Int, 0 ≤ i → i < S 4 2 → 0 ≤ S 3 i ∧ S 3 i ≤ 127)
