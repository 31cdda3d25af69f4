-- what the state gives the methods' specs
section STATE
variable {σ : SG} {g : Int → Int} {t : Nat}
theorem TOK_of (h : TRc σ t g) (hg : GOK g) : TOK σ t := by
  obtain ⟨⟨e0, e1, e2⟩, hl, ho, -⟩ := h
  obtain ⟨g1, g2, g3, g4, g5, -⟩ := hg
  refine ⟨by omega, by omega, by omega, fun l h1 h2 => ?_, fun o h1 h2 => ?_⟩
  · obtain ⟨a1, a2, a3⟩ := hl l h1 (by omega)
    rw [a1, a2, a3]
    exact g4 l h1 (by omega)
  · obtain ⟨a1, a2⟩ := ho o h1 (by omega)
    rw [a1, a2]
    exact g5 o h1 (by omega)
theorem SEEN_of (h : TRc σ 1 g) (hg : GOK g) (ht : TC σ 1) : SEEN σ := by
  obtain ⟨⟨e0, e1, e2⟩, -, -, ⟨s1, s2⟩, -⟩ := h
  obtain ⟨g1, g2, g3, g4, g5, ⟨g6, g7⟩, -⟩ := hg
  obtain ⟨⟨t1, t2⟩, -⟩ := ht
  have s1 : gg σ 7 3 = g 34 := s1
  have s2 : ∀ i : Int, 0 ≤ i → i < 5 * g 34 → ga σ 8 i = g (35 + i) := s2
  refine ⟨t2, t1, by omega, by omega, fun i h1 h2 => ?_⟩
  obtain ⟨b0, b1, b2, b3, b4⟩ := g7 i h1 (by omega)
  rw [s2 (i * 5 + 0) (by omega) (by omega), s2 (i * 5 + 1) (by omega) (by omega), s2 (i * 5 + 2) (by omega) (by omega), s2 (i * 5 + 3) (by omega) (by omega), s2 (i * 5 + 4) (by omega) (by omega), e1,
    show 35 + (i * 5 + 0) = 35 + 5 * i by omega, show 35 + (i * 5 + 1) = 36 + 5 * i by omega, show 35 + (i * 5 + 2) = 37 + 5 * i by omega, show 35 + (i * 5 + 3) = 38 + 5 * i by omega, show 35 + (i * 5 + 4) = 39 + 5 * i by omega]
  exact ⟨b0, b1, b2, b3, b4⟩
theorem NOTE_of (h : TRc σ 1 g) (hg : GOK g) (ht : TC σ 1) : NOTE σ := by
  obtain ⟨⟨e0, e1, e2⟩, -, -, -, ⟨s1, s2⟩, -⟩ := h
  obtain ⟨g1, g2, g3, g4, g5, -, ⟨g6, g7⟩, -⟩ := hg
  obtain ⟨-, ⟨t1, t2⟩, -⟩ := ht
  have s1 : gg σ 9 3 = g 60 := s1
  have s2 : ∀ i : Int, 0 ≤ i → i < 5 * g 60 → ga σ 10 i = g (61 + i) := s2
  refine ⟨t2, t1, by omega, by omega, fun i h1 h2 => ?_⟩
  obtain ⟨b0, b1, b2, b3, b4⟩ := g7 i h1 (by omega)
  rw [s2 (i * 5 + 0) (by omega) (by omega), s2 (i * 5 + 1) (by omega) (by omega), s2 (i * 5 + 2) (by omega) (by omega), s2 (i * 5 + 3) (by omega) (by omega), s2 (i * 5 + 4) (by omega) (by omega), e0,
    show 61 + (i * 5 + 0) = 61 + 5 * i by omega, show 61 + (i * 5 + 1) = 62 + 5 * i by omega, show 61 + (i * 5 + 2) = 63 + 5 * i by omega, show 61 + (i * 5 + 3) = 64 + 5 * i by omega, show 61 + (i * 5 + 4) = 65 + 5 * i by omega]
  exact ⟨b0, b1, b2, b3, b4⟩
theorem MARK_of (h : TRc σ 1 g) (hg : GOK g) (ht : TC σ 1) : MARK σ := by
  obtain ⟨⟨e0, e1, e2⟩, -, -, -, -, ⟨s1, s2⟩, -⟩ := h
  obtain ⟨g1, g2, g3, g4, g5, -, -, ⟨g6, g7⟩, -⟩ := hg
  obtain ⟨-, -, ⟨t1, t2⟩⟩ := ht
  have s1 : gg σ 11 3 = g 91 := s1
  have s2 : ∀ i : Int, 0 ≤ i → i < 4 * g 91 → ga σ 12 i = g (92 + i) := s2
  refine ⟨t2, t1, by omega, by omega, fun i h1 h2 => ?_⟩
  obtain ⟨b0, b1, b2, b3⟩ := g7 i h1 (by omega)
  rw [s2 (i * 4 + 0) (by omega) (by omega), s2 (i * 4 + 1) (by omega) (by omega), s2 (i * 4 + 2) (by omega) (by omega), s2 (i * 4 + 3) (by omega) (by omega), e1,
    show 92 + (i * 4 + 0) = 92 + 4 * i by omega, show 92 + (i * 4 + 1) = 93 + 4 * i by omega, show 92 + (i * 4 + 2) = 94 + 4 * i by omega, show 92 + (i * 4 + 3) = 95 + 4 * i by omega]
  exact ⟨b0, b1, b2, b3⟩
theorem MOK_of {m : Nat} (h : ∀ i : Int, 0 ≤ i → i < 221 → ga σ m i = g i) (hg : GOK g) : MOK σ m := by
  obtain ⟨g1, g2, g3, g4, g5, -⟩ := hg
  have e13 := h 13 (by omega) (by omega)
  have e28 := h 28 (by omega) (by omega)
  have e0 := h 0 (by omega) (by omega)
  refine ⟨by omega, by omega, by omega, fun l h1 h2 => ?_, fun o h1 h2 => ?_⟩
  · rw [h (14 + l) (by omega) (by omega), h (21 + l) (by omega) (by omega), h (6 + l) (by omega) (by omega)]
    exact g4 l h1 (by omega)
  · rw [h (29 + o) (by omega) (by omega), h (1 + o) (by omega) (by omega)]
    exact g5 o h1 (by omega)
end STATE
