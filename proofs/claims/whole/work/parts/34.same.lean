-- what leaves a town as it is
theorem TRc_same {σ τ : SG} {t : Nat} {g : Int → Int} (h : TRc σ t g) (hs : ∀ a b, t ≤ a → a ≤ t + 13 → gg τ a b = gg σ a b) : TRc τ t g := by
  have hga : ∀ a (x : Int), t ≤ a → a ≤ t + 13 → ga τ a x = ga σ a x := fun a x h1 h2 => hs a _ h1 h2
  unfold TRc at h ⊢
  simp (disch := omega) only [hs, hga]
  exact h
theorem TC_same {σ τ : SG} {t : Nat} (h : TC σ t) (hs : ∀ a b, t ≤ a → a ≤ t + 13 → gg τ a b = gg σ a b) : TC τ t := by
  unfold TC at h ⊢
  simp (disch := omega) only [hs]
  exact h
theorem TRc_row {σ : SG} {t : Nat} {g h : Int → Int} (hT : TRc σ t g) (hG : GOK g) (e : ∀ i : Int, 0 ≤ i → i < 221 → h i = g i) : TRc σ t h := by
  obtain ⟨g1, g2, g3, g4, g5, ⟨g6, -⟩, ⟨g7, -⟩, ⟨g8, -⟩, ⟨g9, -⟩⟩ := hG
  obtain ⟨⟨e0, e1, e2⟩, hl, ho, ⟨s1, s2⟩, ⟨n1, n2⟩, ⟨m1, m2⟩, ⟨p1, p2⟩⟩ := hT
  have h13 := e 13 (by omega) (by omega)
  have h28 := e 28 (by omega) (by omega)
  have h0 := e 0 (by omega) (by omega)
  have h34 := e 34 (by omega) (by omega)
  have h60 := e 60 (by omega) (by omega)
  have h91 := e 91 (by omega) (by omega)
  have h116 := e 116 (by omega) (by omega)
  refine ⟨⟨by omega, by omega, by omega⟩, fun l a b => ?_, fun o a b => ?_, ⟨by omega, fun i a b => ?_⟩, ⟨by omega, fun i a b => ?_⟩, ⟨by omega, fun i a b => ?_⟩, ⟨by omega, fun p a b => ?_⟩⟩
  · rw [e (14 + l) (by omega) (by omega), e (21 + l) (by omega) (by omega), e (6 + l) (by omega) (by omega)]
    exact hl l a (by omega)
  · rw [e (29 + o) (by omega) (by omega), e (1 + o) (by omega) (by omega)]
    exact ho o a (by omega)
  · rw [e (35 + i) (by omega) (by omega)]
    exact s2 i a (by omega)
  · rw [e (61 + i) (by omega) (by omega)]
    exact n2 i a (by omega)
  · rw [e (92 + i) (by omega) (by omega)]
    exact m2 i a (by omega)
  · obtain ⟨q1, q2, q3⟩ := p2 p a (by omega)
    refine ⟨fun o c f => ?_, fun l c f => ?_, ?_⟩
    · rw [e (118 + 13 * p + o) (by omega) (by omega)]
      exact q1 o c (by omega)
    · rw [e (123 + 13 * p + l) (by omega) (by omega)]
      exact q2 l c (by omega)
    · rw [e (117 + 13 * p) (by omega) (by omega)]
      exact q3
