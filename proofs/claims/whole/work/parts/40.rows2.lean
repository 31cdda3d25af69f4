-- rows: tables, what may be undone, copies
def v5 (a b c e f : Int) : Int → Int := fun j => if j = 0 then a else if j = 1 then b else if j = 2 then c else if j = 3 then e else f
section ROWS2
variable {σ τ : SG} {g h : Int → Int} {t : Nat}
theorem TRc_tabs (hT : TRc σ t g) (hG : GOK g) (hs : ∀ a b, t ≤ a → (a ≤ t + 5 ∨ (t + 12 ≤ a ∧ a ≤ t + 13)) → gg τ a b = gg σ a b) (hg : ∀ i : Int, 0 ≤ i → i < 221 → (i < 34 ∨ 116 ≤ i) → h i = g i)
    (c1 : gg τ (t + 6) 3 = h 34 ∧ ∀ i : Int, 0 ≤ i → i < 5 * h 34 → ga τ (t + 7) i = h (35 + i))
    (c2 : gg τ (t + 8) 3 = h 60 ∧ ∀ i : Int, 0 ≤ i → i < 5 * h 60 → ga τ (t + 9) i = h (61 + i))
    (c3 : gg τ (t + 10) 3 = h 91 ∧ ∀ i : Int, 0 ≤ i → i < 4 * h 91 → ga τ (t + 11) i = h (92 + i)) : TRc τ t h := by
  have hga : ∀ a (x : Int), t ≤ a → (a ≤ t + 5 ∨ (t + 12 ≤ a ∧ a ≤ t + 13)) → ga τ a x = ga σ a x := fun a x h1 h2 => hs a _ h1 h2
  obtain ⟨g1, g2, g3, g4, g5, -, -, -, ⟨g9, -⟩⟩ := hG
  obtain ⟨⟨e0, e1, e2⟩, hl, ho, -, -, -, ⟨p1, p2⟩⟩ := hT
  have h13 := hg 13 (by omega) (by omega) (by omega)
  have h28 := hg 28 (by omega) (by omega) (by omega)
  have h0 := hg 0 (by omega) (by omega) (by omega)
  have h116 := hg 116 (by omega) (by omega) (by omega)
  refine ⟨⟨by rw [hs _ _ (by omega) (by omega), e0, h13], by rw [hs _ _ (by omega) (by omega), e1, h28], by rw [hs _ _ (by omega) (by omega), e2, h0]⟩, fun l a b => ?_, fun o a b => ?_, c1, c2, c3, ⟨by rw [hs _ _ (by omega) (by omega), p1, h116], fun p a b => ?_⟩⟩
  · rw [hga _ _ (by omega) (by omega), hga _ _ (by omega) (by omega), hga _ _ (by omega) (by omega), hg (14 + l) (by omega) (by omega) (by omega), hg (21 + l) (by omega) (by omega) (by omega), hg (6 + l) (by omega) (by omega) (by omega)]
    exact hl l a (by omega)
  · rw [hga _ _ (by omega) (by omega), hga _ _ (by omega) (by omega), hg (29 + o) (by omega) (by omega) (by omega), hg (1 + o) (by omega) (by omega) (by omega)]
    exact ho o a (by omega)
  · obtain ⟨q1, q2, q3⟩ := p2 p a (by omega)
    refine ⟨fun o c f => ?_, fun l c f => ?_, ?_⟩
    · rw [hga _ _ (by omega) (by omega), hg (118 + 13 * p + o) (by omega) (by omega) (by omega)]
      exact q1 o c (by omega)
    · rw [hga _ _ (by omega) (by omega), hg (123 + 13 * p + l) (by omega) (by omega) (by omega)]
      exact q2 l c (by omega)
    · rw [hga _ _ (by omega) (by omega), hg (117 + 13 * p) (by omega) (by omega) (by omega)]
      exact q3
/-- a row more in a table of five -/
theorem tab5 {k : Nat} {n a b c e f v : Int} (hn : 0 ≤ n ∧ n ≤ 8) (ha : InR a) (hb : InR b) (hc : InR c) (he : InR e) (hf : InR f) {G : Int → Int} (hG : ∀ i : Int, 0 ≤ i → i < 5 * n → ga σ (k + 1) i = G i) : ∀ i : Int, 0 ≤ i → i < 5 * n + 5 →
    ga (ug (ua (ua (ua (ua (ua σ (k + 1) (n * 5) a) (k + 1) (n * 5 + 1) b) (k + 1) (n * 5 + 2) c) (k + 1) (n * 5 + 3) e) (k + 1) (n * 5 + 4) f) k 3 v) (k + 1) i = if i < 5 * n then G i else v5 a b c e f (i - 5 * n) := by
  intro i h0 h1
  rw [ga_ug_ne _ _ _ _ _ _ (by omega)]
  by_cases q : i < 5 * n
  · rw [if_pos q, ga_ua_ni _ _ _ _ _ (by omega) h0 (by omega), ga_ua_ni _ _ _ _ _ (by omega) h0 (by omega), ga_ua_ni _ _ _ _ _ (by omega) h0 (by omega), ga_ua_ni _ _ _ _ _ (by omega) h0 (by omega), ga_ua_ni _ _ _ _ _ (by omega) h0 (by omega)]
    exact hG i h0 q
  · rw [if_neg q]
    unfold v5
    by_cases q4 : i = n * 5 + 4
    · subst q4
      rw [ga_ua_eq, wr_id hf, if_neg (by omega), if_neg (by omega), if_neg (by omega), if_neg (by omega)]
    rw [ga_ua_ni _ _ _ _ _ (by omega) h0 q4]
    by_cases q3 : i = n * 5 + 3
    · subst q3
      rw [ga_ua_eq, wr_id he, if_neg (by omega), if_neg (by omega), if_neg (by omega), if_pos (by omega)]
    rw [ga_ua_ni _ _ _ _ _ (by omega) h0 q3]
    by_cases q2 : i = n * 5 + 2
    · subst q2
      rw [ga_ua_eq, wr_id hc, if_neg (by omega), if_neg (by omega), if_pos (by omega)]
    rw [ga_ua_ni _ _ _ _ _ (by omega) h0 q2]
    by_cases q1 : i = n * 5 + 1
    · subst q1
      rw [ga_ua_eq, wr_id hb, if_neg (by omega), if_pos (by omega)]
    rw [ga_ua_ni _ _ _ _ _ (by omega) h0 q1]
    have q0 : i = n * 5 := by omega
    subst q0
    rw [ga_ua_eq, wr_id ha, if_pos (by omega)]
theorem tab4 {k : Nat} {n a b c e f v : Int} (hn : 0 ≤ n ∧ n ≤ 8) (ha : InR a) (hb : InR b) (hc : InR c) (he : InR e) {G : Int → Int} (hG : ∀ i : Int, 0 ≤ i → i < 4 * n → ga σ (k + 1) i = G i) : ∀ i : Int, 0 ≤ i → i < 4 * n + 4 →
    ga (ug (ua (ua (ua (ua σ (k + 1) (n * 4) a) (k + 1) (n * 4 + 1) b) (k + 1) (n * 4 + 2) c) (k + 1) (n * 4 + 3) e) k 3 v) (k + 1) i = if i < 4 * n then G i else v5 a b c e f (i - 4 * n) := by
  intro i h0 h1
  rw [ga_ug_ne _ _ _ _ _ _ (by omega)]
  by_cases q : i < 4 * n
  · rw [if_pos q, ga_ua_ni _ _ _ _ _ (by omega) h0 (by omega), ga_ua_ni _ _ _ _ _ (by omega) h0 (by omega), ga_ua_ni _ _ _ _ _ (by omega) h0 (by omega), ga_ua_ni _ _ _ _ _ (by omega) h0 (by omega)]
    exact hG i h0 q
  · rw [if_neg q]
    unfold v5
    by_cases q3 : i = n * 4 + 3
    · subst q3
      rw [ga_ua_eq, wr_id he, if_neg (by omega), if_neg (by omega), if_neg (by omega), if_pos (by omega)]
    rw [ga_ua_ni _ _ _ _ _ (by omega) h0 q3]
    by_cases q2 : i = n * 4 + 2
    · subst q2
      rw [ga_ua_eq, wr_id hc, if_neg (by omega), if_neg (by omega), if_pos (by omega)]
    rw [ga_ua_ni _ _ _ _ _ (by omega) h0 q2]
    by_cases q1 : i = n * 4 + 1
    · subst q1
      rw [ga_ua_eq, wr_id hb, if_neg (by omega), if_pos (by omega)]
    rw [ga_ua_ni _ _ _ _ _ (by omega) h0 q1]
    have q0 : i = n * 4 := by omega
    subst q0
    rw [ga_ua_eq, wr_id ha, if_pos (by omega)]
theorem rTab_z {z b w : Int} {v : Int → Int} (hz : z < b + w * g z ∨ b + w * g z + w ≤ z) : rTab g z b w v z = g z + 1 := by
  unfold rTab
  rw [if_neg (by omega), if_pos rfl]
theorem rTab_n {z b w i : Int} {v : Int → Int} (h1 : i < b + w * g z ∨ b + w * g z + w ≤ i) (h2 : ¬ i = z) : rTab g z b w v i = g i := by
  unfold rTab
  rw [if_neg (by omega), if_neg h2]
theorem rTab_i {z b w i : Int} {v : Int → Int} (h1 : b + w * g z ≤ i) (h2 : i < b + w * g z + w) : rTab g z b w v i = v (i - (b + w * g z)) := by
  unfold rTab
  rw [if_pos ⟨h1, h2⟩]
theorem TRc_seen (hT : TRc σ t g) (hG : GOK g) {a b c e f : Int} (hn : g 34 < 5) (ha : InR a) (hb : InR b) (hc : InR c) (he : InR e) (hf : InR f) :
    TRc (ug (ua (ua (ua (ua (ua σ (t + 6 + 1) (gg σ (t + 6) 3 * 5) a) (t + 6 + 1) (gg σ (t + 6) 3 * 5 + 1) b) (t + 6 + 1) (gg σ (t + 6) 3 * 5 + 2) c) (t + 6 + 1) (gg σ (t + 6) 3 * 5 + 3) e) (t + 6 + 1) (gg σ (t + 6) 3 * 5 + 4) f) (t + 6) 3 (gg σ (t + 6) 3 + 1)) t (rTab g 34 35 5 (v5 a b c e f)) := by
  have hT' := hT
  have hG' := hG
  obtain ⟨g1, g2, g3, g4, g5, ⟨g6, -⟩, ⟨g7, -⟩, ⟨g8, -⟩, ⟨g9, -⟩⟩ := hG
  obtain ⟨-, -, -, ⟨s1, s2⟩, ⟨n1, n2⟩, ⟨m1, m2⟩, -⟩ := hT
  have hz : rTab g 34 35 5 (v5 a b c e f) 34 = g 34 + 1 := rTab_z (by omega)
  have h60 : rTab g 34 35 5 (v5 a b c e f) 60 = g 60 := rTab_n (by omega) (by omega)
  have h91 : rTab g 34 35 5 (v5 a b c e f) 91 = g 91 := rTab_n (by omega) (by omega)
  refine TRc_tabs hT' hG' (fun x y h1 h2 => ?_) (fun i h1 h2 h3 => rTab_n (by omega) (by omega)) ⟨?_, fun i h1 h2 => ?_⟩ ⟨?_, fun i h1 h2 => ?_⟩ ⟨?_, fun i h1 h2 => ?_⟩
  · simp (disch := omega) only [gg_ug_ne, gg_ua_ne]
  · rw [gg_ug_eq, hz, s1, wr_id ⟨by omega, by omega⟩]
  · rw [s1]
    refine (tab5 (k := t + 6) (n := g 34) (by omega) ha hb hc he hf (G := fun i => g (35 + i)) s2 i h1 (by omega)).trans ?_
    by_cases q : i < 5 * g 34
    · rw [if_pos q, rTab_n (by omega) (by omega)]
    · rw [if_neg q, rTab_i (by omega) (by omega), show 35 + i - (35 + 5 * g 34) = i - 5 * g 34 by omega]
  · rw [h60, ← n1]
    simp (disch := omega) only [gg_ug_ne, gg_ua_ne]
  · rw [rTab_n (by omega) (by omega), ← n2 i h1 (by omega)]
    simp (disch := omega) only [ga_ug_ne, ga_ua_ne]
  · rw [h91, ← m1]
    simp (disch := omega) only [gg_ug_ne, gg_ua_ne]
  · rw [rTab_n (by omega) (by omega), ← m2 i h1 (by omega)]
    simp (disch := omega) only [ga_ug_ne, ga_ua_ne]
theorem TRc_note (hT : TRc σ t g) (hG : GOK g) {a b c e f : Int} (hn : g 60 < 6) (ha : InR a) (hb : InR b) (hc : InR c) (he : InR e) (hf : InR f) :
    TRc (ug (ua (ua (ua (ua (ua σ (t + 8 + 1) (gg σ (t + 8) 3 * 5) a) (t + 8 + 1) (gg σ (t + 8) 3 * 5 + 1) b) (t + 8 + 1) (gg σ (t + 8) 3 * 5 + 2) c) (t + 8 + 1) (gg σ (t + 8) 3 * 5 + 3) e) (t + 8 + 1) (gg σ (t + 8) 3 * 5 + 4) f) (t + 8) 3 (gg σ (t + 8) 3 + 1)) t (rTab g 60 61 5 (v5 a b c e f)) := by
  have hT' := hT
  have hG' := hG
  obtain ⟨g1, g2, g3, g4, g5, ⟨g6, -⟩, ⟨g7, -⟩, ⟨g8, -⟩, ⟨g9, -⟩⟩ := hG
  obtain ⟨-, -, -, ⟨s1, s2⟩, ⟨n1, n2⟩, ⟨m1, m2⟩, -⟩ := hT
  have hz : rTab g 60 61 5 (v5 a b c e f) 60 = g 60 + 1 := rTab_z (by omega)
  have h34 : rTab g 60 61 5 (v5 a b c e f) 34 = g 34 := rTab_n (by omega) (by omega)
  have h91 : rTab g 60 61 5 (v5 a b c e f) 91 = g 91 := rTab_n (by omega) (by omega)
  refine TRc_tabs hT' hG' (fun x y h1 h2 => ?_) (fun i h1 h2 h3 => rTab_n (by omega) (by omega)) ⟨?_, fun i h1 h2 => ?_⟩ ⟨?_, fun i h1 h2 => ?_⟩ ⟨?_, fun i h1 h2 => ?_⟩
  · simp (disch := omega) only [gg_ug_ne, gg_ua_ne]
  · rw [h34, ← s1]
    simp (disch := omega) only [gg_ug_ne, gg_ua_ne]
  · rw [rTab_n (by omega) (by omega), ← s2 i h1 (by omega)]
    simp (disch := omega) only [ga_ug_ne, ga_ua_ne]
  · rw [gg_ug_eq, hz, n1, wr_id ⟨by omega, by omega⟩]
  · rw [n1]
    refine (tab5 (k := t + 8) (n := g 60) (by omega) ha hb hc he hf (G := fun i => g (61 + i)) n2 i h1 (by omega)).trans ?_
    by_cases q : i < 5 * g 60
    · rw [if_pos q, rTab_n (by omega) (by omega)]
    · rw [if_neg q, rTab_i (by omega) (by omega), show 61 + i - (61 + 5 * g 60) = i - 5 * g 60 by omega]
  · rw [h91, ← m1]
    simp (disch := omega) only [gg_ug_ne, gg_ua_ne]
  · rw [rTab_n (by omega) (by omega), ← m2 i h1 (by omega)]
    simp (disch := omega) only [ga_ug_ne, ga_ua_ne]
theorem TRc_mark (hT : TRc σ t g) (hG : GOK g) {a b c e : Int} (hn : g 91 < 6) (ha : InR a) (hb : InR b) (hc : InR c) (he : InR e) :
    TRc (ug (ua (ua (ua (ua σ (t + 10 + 1) (gg σ (t + 10) 3 * 4) a) (t + 10 + 1) (gg σ (t + 10) 3 * 4 + 1) b) (t + 10 + 1) (gg σ (t + 10) 3 * 4 + 2) c) (t + 10 + 1) (gg σ (t + 10) 3 * 4 + 3) e) (t + 10) 3 (gg σ (t + 10) 3 + 1)) t (rTab g 91 92 4 (v5 a b c e 0)) := by
  have hT' := hT
  have hG' := hG
  obtain ⟨g1, g2, g3, g4, g5, ⟨g6, -⟩, ⟨g7, -⟩, ⟨g8, -⟩, ⟨g9, -⟩⟩ := hG
  obtain ⟨-, -, -, ⟨s1, s2⟩, ⟨n1, n2⟩, ⟨m1, m2⟩, -⟩ := hT
  have hz : rTab g 91 92 4 (v5 a b c e 0) 91 = g 91 + 1 := rTab_z (by omega)
  have h34 : rTab g 91 92 4 (v5 a b c e 0) 34 = g 34 := rTab_n (by omega) (by omega)
  have h60 : rTab g 91 92 4 (v5 a b c e 0) 60 = g 60 := rTab_n (by omega) (by omega)
  refine TRc_tabs hT' hG' (fun x y h1 h2 => ?_) (fun i h1 h2 h3 => rTab_n (by omega) (by omega)) ⟨?_, fun i h1 h2 => ?_⟩ ⟨?_, fun i h1 h2 => ?_⟩ ⟨?_, fun i h1 h2 => ?_⟩
  · simp (disch := omega) only [gg_ug_ne, gg_ua_ne]
  · rw [h34, ← s1]
    simp (disch := omega) only [gg_ug_ne, gg_ua_ne]
  · rw [rTab_n (by omega) (by omega), ← s2 i h1 (by omega)]
    simp (disch := omega) only [ga_ug_ne, ga_ua_ne]
  · rw [h60, ← n1]
    simp (disch := omega) only [gg_ug_ne, gg_ua_ne]
  · rw [rTab_n (by omega) (by omega), ← n2 i h1 (by omega)]
    simp (disch := omega) only [ga_ug_ne, ga_ua_ne]
  · rw [gg_ug_eq, hz, m1, wr_id ⟨by omega, by omega⟩]
  · rw [m1]
    refine (tab4 (k := t + 10) (n := g 91) (f := 0) (by omega) ha hb hc he (G := fun i => g (92 + i)) m2 i h1 (by omega)).trans ?_
    by_cases q : i < 4 * g 91
    · rw [if_pos q, rTab_n (by omega) (by omega)]
    · rw [if_neg q, rTab_i (by omega) (by omega), show 92 + i - (92 + 4 * g 91) = i - 4 * g 91 by omega]
theorem TRc_wtab (hT : TRc σ t g) (hG : GOK g) {z : Int} {a : Nat} (hz : (z = 34 ∧ a = t + 6) ∨ (z = 60 ∧ a = t + 8) ∨ (z = 91 ∧ a = t + 10)) : TRc (ug σ a 3 0) t (r0 g z) := by
  have hT' := hT
  have hG' := hG
  obtain ⟨g1, g2, g3, g4, g5, ⟨g6, -⟩, ⟨g7, -⟩, ⟨g8, -⟩, ⟨g9, -⟩⟩ := hG
  obtain ⟨-, -, -, ⟨s1, s2⟩, ⟨n1, n2⟩, ⟨m1, m2⟩, -⟩ := hT
  have rn : ∀ i : Int, ¬ i = z → r0 g z i = g i := fun i hi => by unfold r0; rw [if_neg hi]
  have rz : r0 g z z = 0 := by unfold r0; rw [if_pos rfl]
  have w0 : wr 0 = 0 := rfl
  refine TRc_tabs hT' hG' (fun x y h1 h2 => ?_) (fun i h1 h2 h3 => rn i (by omega)) ⟨?_, fun i h1 h2 => ?_⟩ ⟨?_, fun i h1 h2 => ?_⟩ ⟨?_, fun i h1 h2 => ?_⟩
  · rw [gg_ug_ne _ _ _ _ _ _ (by omega)]
  · rcases hz with ⟨rfl, rfl⟩ | ⟨rfl, rfl⟩ | ⟨rfl, rfl⟩
    · rw [gg_ug_eq, rz, w0]
    · rw [gg_ug_ne _ _ _ _ _ _ (by omega), rn _ (by omega), s1]
    · rw [gg_ug_ne _ _ _ _ _ _ (by omega), rn _ (by omega), s1]
  · have : i < 5 * g 34 := by
      by_cases e : z = 34
      · subst e; rw [rz] at h2; omega
      · rw [rn _ (by omega)] at h2; exact h2
    rw [ga_ug_ne _ _ _ _ _ _ (by omega), rn _ (by omega), s2 i h1 this]
  · rcases hz with ⟨rfl, rfl⟩ | ⟨rfl, rfl⟩ | ⟨rfl, rfl⟩
    · rw [gg_ug_ne _ _ _ _ _ _ (by omega), rn _ (by omega), n1]
    · rw [gg_ug_eq, rz, w0]
    · rw [gg_ug_ne _ _ _ _ _ _ (by omega), rn _ (by omega), n1]
  · have : i < 5 * g 60 := by
      by_cases e : z = 60
      · subst e; rw [rz] at h2; omega
      · rw [rn _ (by omega)] at h2; exact h2
    rw [ga_ug_ne _ _ _ _ _ _ (by omega), rn _ (by omega), n2 i h1 this]
  · rcases hz with ⟨rfl, rfl⟩ | ⟨rfl, rfl⟩ | ⟨rfl, rfl⟩
    · rw [gg_ug_ne _ _ _ _ _ _ (by omega), rn _ (by omega), m1]
    · rw [gg_ug_ne _ _ _ _ _ _ (by omega), rn _ (by omega), m1]
    · rw [gg_ug_eq, rz, w0]
  · have : i < 4 * g 91 := by
      by_cases e : z = 91
      · subst e; rw [rz] at h2; omega
      · rw [rn _ (by omega)] at h2; exact h2
    rw [ga_ug_ne _ _ _ _ _ _ (by omega), rn _ (by omega), m2 i h1 this]
/-- all the same but what may be undone -/
theorem TRc_past (hT : TRc σ t g) (hG : GOK g) (hs : ∀ a b, t ≤ a → a ≤ t + 11 → gg τ a b = gg σ a b) (hg : ∀ i : Int, 0 ≤ i → i < 116 → h i = g i)
    (c : gg τ (t + 12) 1 = h 116 ∧ ∀ p : Int, 0 ≤ p → p < h 116 → (∀ o : Int, 0 ≤ o → o < g 28 → ga τ (t + 13) (13 * p + o) = h (118 + 13 * p + o)) ∧ (∀ l : Int, 0 ≤ l → l < g 13 → ga τ (t + 13) (13 * p + 5 + l) = h (123 + 13 * p + l)) ∧ ga τ (t + 13) (13 * p + 12) = h (117 + 13 * p)) : TRc τ t h := by
  have hga : ∀ a (x : Int), t ≤ a → a ≤ t + 11 → ga τ a x = ga σ a x := fun a x h1 h2 => hs a _ h1 h2
  obtain ⟨g1, g2, g3, g4, g5, ⟨g6, -⟩, ⟨g7, -⟩, ⟨g8, -⟩, ⟨g9, -⟩⟩ := hG
  obtain ⟨⟨e0, e1, e2⟩, hl, ho, ⟨s1, s2⟩, ⟨n1, n2⟩, ⟨m1, m2⟩, -⟩ := hT
  have h13 := hg 13 (by omega) (by omega)
  have h28 := hg 28 (by omega) (by omega)
  have h0 := hg 0 (by omega) (by omega)
  have h34 := hg 34 (by omega) (by omega)
  have h60 := hg 60 (by omega) (by omega)
  have h91 := hg 91 (by omega) (by omega)
  refine ⟨⟨by rw [hs _ _ (by omega) (by omega), e0, h13], by rw [hs _ _ (by omega) (by omega), e1, h28], by rw [hs _ _ (by omega) (by omega), e2, h0]⟩, fun l a b => ?_, fun o a b => ?_, ⟨by rw [hs _ _ (by omega) (by omega), s1, h34], fun i a b => ?_⟩, ⟨by rw [hs _ _ (by omega) (by omega), n1, h60], fun i a b => ?_⟩, ⟨by rw [hs _ _ (by omega) (by omega), m1, h91], fun i a b => ?_⟩, ⟨c.1, fun p a b => ?_⟩⟩
  · rw [hga _ _ (by omega) (by omega), hga _ _ (by omega) (by omega), hga _ _ (by omega) (by omega), hg (14 + l) (by omega) (by omega), hg (21 + l) (by omega) (by omega), hg (6 + l) (by omega) (by omega)]
    exact hl l a (by omega)
  · rw [hga _ _ (by omega) (by omega), hga _ _ (by omega) (by omega), hg (29 + o) (by omega) (by omega), hg (1 + o) (by omega) (by omega)]
    exact ho o a (by omega)
  · rw [hga _ _ (by omega) (by omega), hg (35 + i) (by omega) (by omega)]
    exact s2 i a (by omega)
  · rw [hga _ _ (by omega) (by omega), hg (61 + i) (by omega) (by omega)]
    exact n2 i a (by omega)
  · rw [hga _ _ (by omega) (by omega), hg (92 + i) (by omega) (by omega)]
    exact m2 i a (by omega)
  · rw [h13, h28]
    exact c.2 p a b
theorem TRc_wpast (hT : TRc σ t g) (hG : GOK g) : TRc (ug σ (t + 12) 1 0) t (r0 g 116) := by
  have rz : r0 g 116 116 = 0 := by unfold r0; rw [if_pos rfl]
  refine TRc_past hT hG (fun a b h1 h2 => gg_ug_ne _ _ _ _ _ _ (by omega)) (fun i h1 h2 => by unfold r0; rw [if_neg (by omega)]) ⟨?_, fun p a b => by rw [rz] at b; omega⟩
  rw [gg_ug_eq, rz]
  rfl
end ROWS2
