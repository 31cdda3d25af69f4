-- the questions' answers, read off a row
def seenG (g : Int → Int) (kd u : Int) (i : Nat) : Bool :=
  decide (tkI (g (29 + g (35 + 5 * (i : Int)))) (ltI kd u (g (37 + 5 * (i : Int))) (g (38 + 5 * (i : Int)))) (g (36 + 5 * (i : Int))) = g (39 + 5 * (i : Int)))
def noteG (g : Int → Int) (kd l : Int) (i : Nat) : Bool :=
  decide (¬ g (61 + 5 * (i : Int)) = l ∨ ltI kd (g (62 + 5 * (i : Int))) (g (63 + 5 * (i : Int))) (g (64 + 5 * (i : Int))) = g (65 + 5 * (i : Int)))
def markG (g : Int → Int) (kd o : Int) (i : Nat) : Bool :=
  decide (¬ g (92 + 4 * (i : Int)) = o ∨ tkI kd (g (94 + 4 * (i : Int))) (g (93 + 4 * (i : Int))) = g (95 + 4 * (i : Int)))
def whichG (g : Int → Int) (l : Nat) : Bool := allF (seenG g (g (14 + (l : Int))) (g (21 + (l : Int)))) 0 (g 34).toNat
def setW (g : Int → Int) : Int := orF (whichG g) 0 (g 13).toNat 0
def setL (g : Int → Int) (l : Int) : Int := orF (fun kd => allF (noteG g (kd : Int) l) 0 (g 60).toNat) 0 6 0
def setO (g : Int → Int) (o : Int) : Int := orF (fun kd => allF (markG g (kd : Int) o) 0 (g 91).toNat) 0 6 0
def tkN (g : Int → Int) (o : Int) (l : Nat) (k h : Int) : Int := tkI (g (29 + o)) (ltI (g (14 + (l : Int))) (g (21 + (l : Int))) k (g 0)) h
def tkN2 (g : Int → Int) (o l : Nat) (k h : Int) : Int := tkN g (o : Int) l k h
def knG (g : Int → Int) (l : Nat) : Int := g (6 + (l : Int))
def heG (g : Int → Int) (o : Nat) : Int := g (1 + (o : Int))
/-- the best of what is asked: told and how many are alike -/
def bstS (a : Int) (v : Int) (B : Int × Int) : Int × Int := if a < B.2 then (v, a) else B
def tellA (g : Int → Int) (o : Int) (dd k : Nat) : Int := mostL (cmpF (hasb (setW g)) (fun l => tkI (g (29 + o)) (ltI (g (14 + (l : Int))) (g (21 + (l : Int))) (k : Int) (dd : Int)) (g (1 + o))) 0 (g 13).toNat)
def lookA (g : Int → Int) (l : Int) (k dd : Nat) : Int := mostL (cmpF (hasb (setL g l)) (fun kd => ltI (kd : Int) (g (21 + l)) (k : Int) (dd : Int)) 0 6)
def askA (g : Int → Int) (o : Int) (x : Nat) : Int := mostL (cmpF (hasb (setO g o)) (fun kd => tkI (kd : Int) (x : Int) (g (1 + o))) 0 6)
def tellB (g : Int → Int) (o : Int) (dd : Nat) (B : Int × Int) : Int × Int := foldU (fun k B => bstS (tellA g o dd k) (10 * (dd : Int) + (k : Int)) B) 3 0 B
def lookB (g : Int → Int) (l : Int) (k : Nat) (B : Int × Int) : Int × Int := foldU (fun dd B => bstS (lookA g l k dd) (100 * (k : Int) + (dd : Int)) B) 21 0 B
def askB (g : Int → Int) (o : Int) (x : Nat) (B : Int × Int) : Int × Int := bstS (askA g o x) (x : Int) B
def getG (g : Int → Int) (o i j : Int) : Int := if i = j then -3 else tkG g o i - g (6 + i)
def bstG (g : Int → Int) (o : Int) (i j : Nat) : Bool := allF (fun x => decide (¬ getG g o (i : Int) (j : Int) < getG g o (x : Int) (j : Int))) 0 (g 13).toNat
def arcJ (p : Nat → Nat → Bool) (k : Int) (i : Nat) : Nat → Nat → Int → Int ⊕ Int
  | 0, _, r => .inr r
  | m + 1, j, r => if p i j then (if r = k then .inl (10 * (i : Int) + (j : Int)) else arcJ p k i m (j + 1) (r + 1)) else arcJ p k i m (j + 1) r
def arcI (p : Nat → Nat → Bool) (k : Int) (n : Nat) : Nat → Nat → Int → Int ⊕ Int
  | 0, _, r => .inr r
  | m + 1, i, r => match arcJ p k i n 0 r with
    | .inl v => .inl v
    | .inr r' => arcI p k n m (i + 1) r'
def coldV (h : Int) : Int := if 20 ≤ h then (h - 13) / 7 else 0
section QG
variable {σ : SG} {g : Int → Int}
theorem seenC_G (hT : TRc σ 1 g) (hG : GOK g) {kd u : Int} {i : Nat} (hi : (i : Int) < g 34) : seenC σ kd u i = seenG g kd u i := by
  obtain ⟨g1, g2, g3, g4, g5, ⟨g6, g6'⟩, -⟩ := hG
  obtain ⟨-, -, ho, ⟨s1, s2⟩, -⟩ := hT
  have s2 : ∀ i : Int, 0 ≤ i → i < 5 * g 34 → ga σ 8 i = g (35 + i) := s2
  have ho : ∀ o : Int, 0 ≤ o → o < g 28 → ga σ 5 o = g (29 + o) ∧ ga σ 6 o = g (1 + o) := ho
  obtain ⟨b0, b1, b2, b3, b4⟩ := g6' (i : Int) (by omega) hi
  unfold seenC seenG
  rw [s2 ((i : Int) * 5 + 0) (by omega) (by omega), s2 ((i : Int) * 5 + 1) (by omega) (by omega), s2 ((i : Int) * 5 + 2) (by omega) (by omega), s2 ((i : Int) * 5 + 3) (by omega) (by omega), s2 ((i : Int) * 5 + 4) (by omega) (by omega),
    show 35 + ((i : Int) * 5 + 0) = 35 + 5 * (i : Int) by omega, show 35 + ((i : Int) * 5 + 1) = 36 + 5 * (i : Int) by omega, show 35 + ((i : Int) * 5 + 2) = 37 + 5 * (i : Int) by omega, show 35 + ((i : Int) * 5 + 3) = 38 + 5 * (i : Int) by omega, show 35 + ((i : Int) * 5 + 4) = 39 + 5 * (i : Int) by omega, (ho _ b0.1 b0.2).1]
theorem setW_G (hT : TRc σ 1 g) (hG : GOK g) : orF (whichC σ) 0 (gg σ 1 0).toNat 0 = setW g := by
  have hT' := hT
  obtain ⟨⟨e0, e1, e2⟩, hl, ho, ⟨s1, s2⟩, -⟩ := hT
  have hl : ∀ l : Int, 0 ≤ l → l < g 13 → ga σ 2 l = g (14 + l) ∧ ga σ 3 l = g (21 + l) ∧ ga σ 4 l = g (6 + l) := hl
  have s1 : gg σ 7 3 = g 34 := s1
  unfold setW
  rw [e0]
  refine orF_congr _ _ _ (fun l _ hl2 => ?_)
  obtain ⟨a1, a2, a3⟩ := hl (l : Int) (by omega) (by omega)
  unfold whichC whichG
  rw [a1, a2, s1]
  exact allF_congr _ _ (fun i _ hi => seenC_G hT' hG (by omega))
theorem noteC_G (hT : TRc σ 1 g) (hG : GOK g) {kd l : Int} {i : Nat} (hi : (i : Int) < g 60) : noteC σ kd l i = noteG g kd l i := by
  obtain ⟨-, -, -, -, ⟨s1, s2⟩, -⟩ := hT
  have s2 : ∀ i : Int, 0 ≤ i → i < 5 * g 60 → ga σ 10 i = g (61 + i) := s2
  unfold noteC noteG
  rw [s2 ((i : Int) * 5 + 0) (by omega) (by omega), s2 ((i : Int) * 5 + 1) (by omega) (by omega), s2 ((i : Int) * 5 + 2) (by omega) (by omega), s2 ((i : Int) * 5 + 3) (by omega) (by omega), s2 ((i : Int) * 5 + 4) (by omega) (by omega),
    show 61 + ((i : Int) * 5 + 0) = 61 + 5 * (i : Int) by omega, show 61 + ((i : Int) * 5 + 1) = 62 + 5 * (i : Int) by omega, show 61 + ((i : Int) * 5 + 2) = 63 + 5 * (i : Int) by omega, show 61 + ((i : Int) * 5 + 3) = 64 + 5 * (i : Int) by omega, show 61 + ((i : Int) * 5 + 4) = 65 + 5 * (i : Int) by omega]
theorem setL_G (hT : TRc σ 1 g) (hG : GOK g) {l : Int} : orF (fit103 σ l) 0 6 0 = setL g l := by
  have hT' := hT
  obtain ⟨-, -, -, -, ⟨s1, s2⟩, -⟩ := hT
  have s1 : gg σ 9 3 = g 60 := s1
  refine orF_congr _ _ _ (fun kd _ _ => ?_)
  unfold fit103
  rw [s1]
  exact allF_congr _ _ (fun i _ hi => noteC_G hT' hG (by omega))
theorem markC_G (hT : TRc σ 1 g) (hG : GOK g) {kd l : Int} {i : Nat} (hi : (i : Int) < g 91) : markC σ kd l i = markG g kd l i := by
  obtain ⟨-, -, -, -, -, ⟨s1, s2⟩, -⟩ := hT
  have s2 : ∀ i : Int, 0 ≤ i → i < 4 * g 91 → ga σ 12 i = g (92 + i) := s2
  unfold markC markG
  rw [s2 ((i : Int) * 4 + 0) (by omega) (by omega), s2 ((i : Int) * 4 + 1) (by omega) (by omega), s2 ((i : Int) * 4 + 2) (by omega) (by omega), s2 ((i : Int) * 4 + 3) (by omega) (by omega),
    show 92 + ((i : Int) * 4 + 0) = 92 + 4 * (i : Int) by omega, show 92 + ((i : Int) * 4 + 1) = 93 + 4 * (i : Int) by omega, show 92 + ((i : Int) * 4 + 2) = 94 + 4 * (i : Int) by omega, show 92 + ((i : Int) * 4 + 3) = 95 + 4 * (i : Int) by omega]
theorem setO_G (hT : TRc σ 1 g) (hG : GOK g) {o : Int} : orF (fit105 σ o) 0 6 0 = setO g o := by
  have hT' := hT
  obtain ⟨-, -, -, -, -, ⟨s1, s2⟩, -⟩ := hT
  have s1 : gg σ 11 3 = g 91 := s1
  refine orF_congr _ _ _ (fun kd _ _ => ?_)
  unfold fit105
  rw [s1]
  exact allF_congr _ _ (fun i _ hi => markC_G hT' hG (by omega))
theorem set_b {p : Nat → Bool} {n : Nat} (hn : n ≤ 7) : 0 ≤ orF p 0 n 0 ∧ orF p 0 n 0 < 128 := by
  obtain ⟨h1, h2⟩ := orF_lt (p := p) n 0 0 (by omega) (by omega)
  have : (2 : Int) ^ (0 + n) ≤ 128 := by
    have h7 : n = 0 ∨ n = 1 ∨ n = 2 ∨ n = 3 ∨ n = 4 ∨ n = 5 ∨ n = 6 ∨ n = 7 := by omega
    rcases h7 with rfl | rfl | rfl | rfl | rfl | rfl | rfl | rfl <;> decide
  exact ⟨h1, by omega⟩
theorem firL_congr {f f2 : Nat → Option (List Nat)} : ∀ (k l : Nat), (∀ j, l ≤ j → j < l + k → f j = f2 j) → firL f k l = firL f2 k l := by
  intro k
  induction k with
  | zero => intro l _; rfl
  | succ k ih =>
    intro l h
    simp only [firL]
    rw [h l (Nat.le_refl _) (by omega), ih (l + 1) (fun j h1 h2 => h j (by omega) (by omega))]
theorem dfsF_congr {n : Nat} {tk tk2 : Nat → Int → Int → Int} (ht : ∀ l, l < n → tk l = tk2 l) : ∀ (r : Nat) (kn kn2 : Nat → Int) (h : Int), (∀ l, l < n → kn l = kn2 l) → dfsF n tk r kn h = dfsF n tk2 r kn2 h := by
  intro r
  induction r with
  | zero => intro kn kn2 h _; rfl
  | succ r ih =>
    intro kn kn2 h hk
    simp only [dfsF]
    refine firL_congr _ _ (fun l _ hl => ?_)
    rw [ht l (by omega), hk l (by omega)]
    refine ih _ _ _ (fun j hj => ?_)
    unfold upk
    rw [hk l (by omega), hk j hj]
theorem fewA_congr {f f2 : Nat → Option (List Nat)} (h : ∀ j, f j = f2 j) : ∀ (k l : Nat), fewA f k l = fewA f2 k l := by
  intro k
  induction k with
  | zero => intro l; rfl
  | succ k ih => intro l; simp only [fewA]; rw [h l, ih]
theorem plcF_congr {n O : Nat} {tk tk2 : Nat → Nat → Int → Int → Int} {he he2 : Nat → Int} (ht : ∀ o l, o < O → l < n → tk o l = tk2 o l) (hh : ∀ o, o < O → he o = he2 o) : ∀ (r o : Nat) (pre : List Nat) (kn kn2 : Nat → Int) (hot heat : Int) (B : List Nat × Int × Int), o + r = O → (∀ l, l < n → kn l = kn2 l) →
    plcF n tk he r o pre kn hot heat B = plcF n tk2 he2 r o pre kn2 hot heat B := by
  intro r
  induction r with
  | zero => intro o pre kn kn2 hot heat B _ _; rfl
  | succ r ih =>
    intro o pre kn kn2 hot heat B ho hk
    simp only [plcF]
    refine foldU_congr _ _ _ _ _ (fun gd B _ hg => ?_)
    have e : gHe tk he o gd kn = gHe tk2 he2 o gd kn2 := by
      unfold gHe
      rw [hh o (by omega)]
      split
      · rfl
      · rw [ht o (gd - 1) (by omega) (by omega), hk (gd - 1) (by omega)]
    rw [e]
    refine ih (o + 1) _ _ _ _ _ B (by omega) (fun l hl => ?_)
    unfold gKn
    split
    · exact hk l hl
    · unfold upk
      rw [hk (gd - 1) (by omega), hk l hl]
theorem tkR_G (hT : TRc σ 1 g) {o : Int} (ho : 0 ≤ o ∧ o < g 28) {l : Nat} (hl : (l : Int) < g 13) : tkR σ o l = tkN g o l := by
  obtain ⟨⟨e0, e1, e2⟩, hl1, ho1, -⟩ := hT
  obtain ⟨a1, a2, a3⟩ := hl1 (l : Int) (by omega) hl
  obtain ⟨b1, b2⟩ := ho1 o ho.1 ho.2
  funext k h
  unfold tkR tkN ltT
  rw [a1, a2, e2]
  rw [show ga σ 5 o = g (29 + o) from b1]
theorem tkW_G (hT : TRc σ 1 g) {o l : Nat} (ho : (o : Int) < g 28) (hl : (l : Int) < g 13) : tkW σ o l = tkN2 g o l := by
  funext k h
  exact congrFun (congrFun (tkR_G hT (o := (o : Int)) ⟨by omega, ho⟩ hl) k) h
/-- the ways that are weighed are as long as there are ovens -/
theorem plc_len {n : Nat} {tk : Nat → Nat → Int → Int → Int} {he : Nat → Int} (h0 : ∀ x o kn, 0 ≤ (scoR tk he x o kn).1) : ∀ (O : Nat) (kn : Nat → Int), (plcF n tk he O 0 [] kn 0 0 ([], -1, -1)).1.length = O := by
  intro O kn
  have dl : ∀ (m x : Nat), (digs (n + 1) m x).length = m := by
    intro m
    induction m with
    | zero => intro x; rfl
    | succ m ih => intro x; simp only [digs, List.length_cons]; rw [ih]
  rw [plc_num]
  have key : ∀ (k x : Nat) (B : List Nat × Int × Int), (B.1.length = O ∧ 0 ≤ B.2.1) → (foldU (fun x B => updB B ([] ++ digs (n + 1) O x) (0 + (scoR tk he (digs (n + 1) O x) 0 kn).1) (0 + (scoR tk he (digs (n + 1) O x) 0 kn).2)) k x B).1.length = O := by
    intro k
    induction k with
    | zero => intro x B h; exact h.1
    | succ k ih =>
      intro x B h
      simp only [foldU]
      refine ih (x + 1) _ ?_
      unfold updB
      split
      · exact ⟨by rw [List.nil_append, dl], by have := h0 (digs (n + 1) O x) 0 kn; show 0 ≤ 0 + (scoR tk he (digs (n + 1) O x) 0 kn).1; omega⟩
      · exact h
  obtain ⟨k, hk⟩ : ∃ k, (n + 1) ^ O = k + 1 := ⟨(n + 1) ^ O - 1, by have : 0 < (n + 1) ^ O := Nat.pow_pos (by omega); omega⟩
  rw [hk]
  simp only [foldU]
  refine key k 1 _ ?_
  have hs := h0 (digs (n + 1) O 0) 0 kn
  unfold updB
  rw [if_pos (Or.inl (by show (-1 : Int) < _; omega))]
  exact ⟨by rw [List.nil_append, dl], by show (0 : Int) ≤ 0 + (scoR tk he (digs (n + 1) O 0) 0 kn).1; omega⟩
theorem scoR_nn (tk : Nat → Nat → Int → Int → Int) (he : Nat → Int) : ∀ (x : List Nat) (o : Nat) (kn : Nat → Int), 0 ≤ (scoR tk he x o kn).1 := by
  intro x
  induction x with
  | nil => intro o kn; exact Int.le_refl _
  | cons a x ih =>
    intro o kn
    simp only [scoR]
    have := ih (o + 1) (gKn a kn)
    have h1 := hot1_b (gHe tk he o a kn)
    omega
end QG
