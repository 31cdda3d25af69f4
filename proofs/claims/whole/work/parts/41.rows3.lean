-- rows: remembered, taken back, copied; and the bounds of what comes out
section ROWS3
variable {σ τ : SG} {g h : Int → Int} {t : Nat}
theorem mR14_gg (σ : SG) (c b n : Nat) (v : Nat → Int) {a x : Nat} (h : ¬ a = c) : gg (mR σ c b n v) a x = gg σ a x := by rw [gg_mR, if_neg h]
theorem TRc_drop (hT : TRc σ 1 g) (hG : GOK g) (h8 : g 116 = 8) : TRc (drpC σ) 1 (rDrop g) := by
  have hT' := hT
  have hG' := hG
  obtain ⟨g1, g2, g3, g4, g5, -, -, -, ⟨g9, -⟩⟩ := hG
  obtain ⟨-, -, -, -, -, -, ⟨p1, p2⟩⟩ := hT
  have d116 : rDrop g 116 = 7 := by unfold rDrop; rw [if_neg (by omega), if_pos rfl]
  have di : ∀ i : Int, 117 ≤ i → i < 208 → rDrop g i = g (i + 13) := fun i h1 h2 => by unfold rDrop; rw [if_pos ⟨h1, h2⟩]
  unfold drpC
  refine TRc_past hT' hG' (fun a b h1 h2 => by rw [gg_ug_ne _ _ _ _ _ _ (by omega), mR14_gg _ _ _ _ _ (by omega)]) (fun i h1 h2 => by unfold rDrop; rw [if_neg (by omega), if_neg (by omega)]) ⟨by rw [gg_ug_eq, d116]; rfl, fun p a b => ?_⟩
  rw [d116] at b
  obtain ⟨q1, q2, q3⟩ := p2 (p + 1) (by omega) (by omega)
  have key : ∀ x : Int, 0 ≤ x → x < 91 → ga (ug (mR σ 14 0 91 (fun j => ga σ 14 (13 + (j : Int)))) 13 1 7) 14 x = ga σ 14 (13 + x) := fun x h1 h2 => by
    rw [ga_ug_ne _ _ _ _ _ _ (by omega), ga_mR _ _ _ _ _ _ h1, if_pos rfl, if_pos ⟨by omega, by omega⟩, wr_id (ga_in _ _ _)]
    congr 1
    omega
  refine ⟨fun o c f => ?_, fun l c f => ?_, ?_⟩
  · rw [key _ (by omega) (by omega), di _ (by omega) (by omega), show 13 + (13 * p + o) = 13 * (p + 1) + o by omega, show 118 + 13 * p + o + 13 = 118 + 13 * (p + 1) + o by omega]
    exact q1 o c f
  · rw [key _ (by omega) (by omega), di _ (by omega) (by omega), show 13 + (13 * p + 5 + l) = 13 * (p + 1) + 5 + l by omega, show 123 + 13 * p + l + 13 = 123 + 13 * (p + 1) + l by omega]
    exact q2 l c f
  · rw [key _ (by omega) (by omega), di _ (by omega) (by omega), show 13 + (13 * p + 12) = 13 * (p + 1) + 12 by omega, show 117 + 13 * p + 13 = 117 + 13 * (p + 1) by omega]
    exact q3
theorem TRc_put (hT : TRc σ 1 g) (hG : GOK g) (h8 : g 116 < 8) : TRc (remC σ) 1 (rPut g) := by
  have hT' := hT
  have hG' := hG
  obtain ⟨g1, g2, g3, g4, g5, -, -, -, ⟨g9, -⟩⟩ := hG
  obtain ⟨⟨e0, e1, e2⟩, hl, ho, -, -, -, ⟨p1, p2⟩⟩ := hT
  have p1 : gg σ 13 1 = g 116 := p1
  have d116 : rPut g 116 = g 116 + 1 := by unfold rPut; rw [if_neg (by omega), if_pos rfl]
  have dn : ∀ i : Int, (i < 117 + 13 * g 116 ∨ 130 + 13 * g 116 ≤ i) → ¬ i = 116 → rPut g i = g i := fun i h1 h2 => by unfold rPut; rw [if_neg (by omega), if_neg h2]
  have di : ∀ i : Int, 117 + 13 * g 116 ≤ i → i < 130 + 13 * g 116 → rPut g i = g (i - (117 + 13 * g 116)) := fun i h1 h2 => by unfold rPut; rw [if_pos ⟨h1, h2⟩]
  have eA : ∀ a b, ¬ a = 14 → gg (remA σ) a b = gg σ a b := fun a b h => by unfold remA; rw [gg_mR, if_neg h]
  unfold remC
  refine TRc_past hT' hG' (fun a b h1 h2 => by rw [gg_ug_ne _ _ _ _ _ _ (by omega), gg_ua_ne _ _ _ _ _ _ (by omega), remB_gg (by omega)]) (fun i h1 h2 => dn i (by omega) (by omega)) ⟨by rw [gg_ug_eq, d116, p1, wr_id ⟨by omega, by omega⟩], fun p a b => ?_⟩
  rw [d116] at b
  -- what the cells hold
  have k0 : ga (ug (ua (remB σ) 14 ((((gg σ 13 1).toNat * 13 : Nat) : Int) + 5 + 7) (gg σ 1 2)) 13 1 (gg σ 13 1 + 1)) 14 (13 * g 116 + 12) = gg σ 1 2 := by
    rw [ga_ug_ne _ _ _ _ _ _ (by omega), p1, show (13 * g 116 + 12 : Int) = (((g 116).toNat * 13 : Nat) : Int) + 5 + 7 by omega, ga_ua_eq, wr_id (gg_in _ _ _)]
  have k1 : ∀ x : Int, 0 ≤ x → x < 13 * g 116 → ga (ug (ua (remB σ) 14 ((((gg σ 13 1).toNat * 13 : Nat) : Int) + 5 + 7) (gg σ 1 2)) 13 1 (gg σ 13 1 + 1)) 14 x = ga σ 14 x := fun x h1 h2 => by
    rw [ga_ug_ne _ _ _ _ _ _ (by omega), ga_ua_ni _ _ _ _ _ (by omega) h1 (by omega)]
    unfold remB remA
    rw [ga_mR _ _ _ _ _ _ h1, if_pos rfl, if_neg (by omega), ga_mR _ _ _ _ _ _ h1, if_pos rfl, if_neg (by omega)]
  have k2 : ∀ x : Int, 0 ≤ x → x < 5 → ga (ug (ua (remB σ) 14 ((((gg σ 13 1).toNat * 13 : Nat) : Int) + 5 + 7) (gg σ 1 2)) 13 1 (gg σ 13 1 + 1)) 14 (13 * g 116 + x) = ga σ 6 x := fun x h1 h2 => by
    rw [ga_ug_ne _ _ _ _ _ _ (by omega), ga_ua_ni _ _ _ _ _ (by omega) (by omega) (by omega)]
    unfold remB
    rw [ga_mR _ _ _ _ _ _ (by omega), if_pos rfl, if_neg (by omega)]
    unfold remA
    rw [ga_mR _ _ _ _ _ _ (by omega), if_pos rfl, if_pos ⟨by omega, by omega⟩, wr_id (ga_in _ _ _)]
    congr 1
    omega
  have k3 : ∀ x : Int, 0 ≤ x → x < 7 → ga (ug (ua (remB σ) 14 ((((gg σ 13 1).toNat * 13 : Nat) : Int) + 5 + 7) (gg σ 1 2)) 13 1 (gg σ 13 1 + 1)) 14 (13 * g 116 + 5 + x) = ga σ 4 x := fun x h1 h2 => by
    rw [ga_ug_ne _ _ _ _ _ _ (by omega), ga_ua_ni _ _ _ _ _ (by omega) (by omega) (by omega)]
    unfold remB
    rw [ga_mR _ _ _ _ _ _ (by omega), if_pos rfl, if_pos ⟨by omega, by omega⟩, wr_id (ga_in _ _ _)]
    have e : ∀ y : Int, ga (remA σ) 4 y = ga σ 4 y := fun y => eA 4 _ (by omega)
    rw [e]
    congr 1
    omega
  by_cases q : p = g 116
  · subst q
    refine ⟨fun o c f => ?_, fun l c f => ?_, ?_⟩
    · rw [k2 o c (by omega), di _ (by omega) (by omega), show 118 + 13 * g 116 + o - (117 + 13 * g 116) = 1 + o by omega]
      exact (ho o c f).2
    · rw [k3 l c (by omega), di _ (by omega) (by omega), show 123 + 13 * g 116 + l - (117 + 13 * g 116) = 6 + l by omega]
      exact (hl l c f).2.2
    · rw [k0, di _ (by omega) (by omega), show 117 + 13 * g 116 - (117 + 13 * g 116) = 0 by omega]
      exact e2
  · obtain ⟨q1, q2, q3⟩ := p2 p a (by omega)
    refine ⟨fun o c f => ?_, fun l c f => ?_, ?_⟩
    · rw [k1 _ (by omega) (by omega), dn _ (by omega) (by omega)]
      exact q1 o c f
    · rw [k1 _ (by omega) (by omega), dn _ (by omega) (by omega)]
      exact q2 l c f
    · rw [k1 _ (by omega) (by omega), dn _ (by omega) (by omega)]
      exact q3
theorem GOK_drop (hG : GOK g) (h8 : g 116 = 8) : GOK (rDrop g) := by
  obtain ⟨g1, g2, g3, g4, g5, ⟨g6, g6'⟩, ⟨g7, g7'⟩, ⟨g8, g8'⟩, ⟨g9, g9'⟩⟩ := hG
  have d116 : rDrop g 116 = 7 := by unfold rDrop; rw [if_neg (by omega), if_pos rfl]
  have di : ∀ i : Int, 117 ≤ i → i < 208 → rDrop g i = g (i + 13) := fun i h1 h2 => by unfold rDrop; rw [if_pos ⟨h1, h2⟩]
  have dn : ∀ i : Int, i < 116 → rDrop g i = g i := fun i h1 => by unfold rDrop; rw [if_neg (by omega), if_neg (by omega)]
  unfold GOK
  rw [dn 13 (by omega), dn 28 (by omega), dn 0 (by omega), dn 34 (by omega), dn 60 (by omega), dn 91 (by omega), d116]
  refine ⟨g1, g2, g3, fun l a b => ?_, fun o a b => ?_, ⟨g6, fun i a b => ?_⟩, ⟨g7, fun i a b => ?_⟩, ⟨g8, fun i a b => ?_⟩, ⟨by omega, fun p a b => ?_⟩⟩
  · rw [dn _ (by omega), dn _ (by omega), dn _ (by omega)]; exact g4 l a b
  · rw [dn _ (by omega), dn _ (by omega)]; exact g5 o a b
  · rw [dn _ (by omega), dn _ (by omega), dn _ (by omega), dn _ (by omega), dn _ (by omega)]; exact g6' i a b
  · rw [dn _ (by omega), dn _ (by omega), dn _ (by omega), dn _ (by omega), dn _ (by omega)]; exact g7' i a b
  · rw [dn _ (by omega), dn _ (by omega), dn _ (by omega), dn _ (by omega)]; exact g8' i a b
  · obtain ⟨q1, q2, q3⟩ := g9' (p + 1) (by omega) (by omega)
    refine ⟨?_, fun o c f => ?_, fun l c f => ?_⟩
    · rw [di _ (by omega) (by omega), show 117 + 13 * p + 13 = 117 + 13 * (p + 1) by omega]; exact q1
    · rw [di _ (by omega) (by omega), show 118 + 13 * p + o + 13 = 118 + 13 * (p + 1) + o by omega]; exact q2 o c f
    · rw [di _ (by omega) (by omega), show 123 + 13 * p + l + 13 = 123 + 13 * (p + 1) + l by omega]; exact q3 l c f
theorem GOK_put (hG : GOK g) (h8 : g 116 < 8) (hd : g 0 ≤ 9999) : GOK (rPut g) := by
  obtain ⟨g1, g2, g3, g4, g5, ⟨g6, g6'⟩, ⟨g7, g7'⟩, ⟨g8, g8'⟩, ⟨g9, g9'⟩⟩ := hG
  have d116 : rPut g 116 = g 116 + 1 := by unfold rPut; rw [if_neg (by omega), if_pos rfl]
  have dn : ∀ i : Int, (i < 117 + 13 * g 116 ∨ 130 + 13 * g 116 ≤ i) → ¬ i = 116 → rPut g i = g i := fun i h1 h2 => by unfold rPut; rw [if_neg (by omega), if_neg h2]
  have di : ∀ i : Int, 117 + 13 * g 116 ≤ i → i < 130 + 13 * g 116 → rPut g i = g (i - (117 + 13 * g 116)) := fun i h1 h2 => by unfold rPut; rw [if_pos ⟨h1, h2⟩]
  unfold GOK
  rw [dn 13 (by omega) (by omega), dn 28 (by omega) (by omega), dn 0 (by omega) (by omega), dn 34 (by omega) (by omega), dn 60 (by omega) (by omega), dn 91 (by omega) (by omega), d116]
  refine ⟨g1, g2, g3, fun l a b => ?_, fun o a b => ?_, ⟨g6, fun i a b => ?_⟩, ⟨g7, fun i a b => ?_⟩, ⟨g8, fun i a b => ?_⟩, ⟨by omega, fun p a b => ?_⟩⟩
  · rw [dn _ (by omega) (by omega), dn _ (by omega) (by omega), dn _ (by omega) (by omega)]; exact g4 l a b
  · rw [dn _ (by omega) (by omega), dn _ (by omega) (by omega)]; exact g5 o a b
  · rw [dn _ (by omega) (by omega), dn _ (by omega) (by omega), dn _ (by omega) (by omega), dn _ (by omega) (by omega), dn _ (by omega) (by omega)]; exact g6' i a b
  · rw [dn _ (by omega) (by omega), dn _ (by omega) (by omega), dn _ (by omega) (by omega), dn _ (by omega) (by omega), dn _ (by omega) (by omega)]; exact g7' i a b
  · rw [dn _ (by omega) (by omega), dn _ (by omega) (by omega), dn _ (by omega) (by omega), dn _ (by omega) (by omega)]; exact g8' i a b
  · by_cases q : p = g 116
    · subst q
      refine ⟨?_, fun o c f => ?_, fun l c f => ?_⟩
      · rw [di _ (by omega) (by omega), show 117 + 13 * g 116 - (117 + 13 * g 116) = 0 by omega]; omega
      · rw [di _ (by omega) (by omega), show 118 + 13 * g 116 + o - (117 + 13 * g 116) = 1 + o by omega]; exact (g5 o c f).2
      · rw [di _ (by omega) (by omega), show 123 + 13 * g 116 + l - (117 + 13 * g 116) = 6 + l by omega]; exact (g4 l c f).2.2
    · obtain ⟨q1, q2, q3⟩ := g9' p a (by omega)
      refine ⟨?_, fun o c f => ?_, fun l c f => ?_⟩
      · rw [dn _ (by omega) (by omega)]; exact q1
      · rw [dn _ (by omega) (by omega)]; exact q2 o c f
      · rw [dn _ (by omega) (by omega)]; exact q3 l c f
theorem TRc_rem (hT : TRc σ 1 g) (hG : GOK g) : TRc (rmbC σ) 1 (rRem g) := by
  have hG' := hG
  have hT' := hT
  obtain ⟨g1, g2, g3, g4, g5, -, -, -, ⟨g9, -⟩⟩ := hG
  obtain ⟨-, -, -, -, -, -, ⟨p1, p2⟩⟩ := hT
  have p1 : gg σ 13 1 = g 116 := p1
  unfold rmbC rRem
  rw [p1]
  by_cases h : 8 ≤ g 116
  · rw [if_pos h, if_pos h]
    have d116 : rDrop g 116 = 7 := by unfold rDrop; rw [if_neg (by omega), if_pos rfl]
    exact TRc_put (TRc_drop hT' hG' (by omega)) (GOK_drop hG' (by omega)) (by rw [d116]; omega)
  · rw [if_neg h, if_neg h]
    exact TRc_put hT' hG' (by omega)
theorem GOK_rem (hG : GOK g) (hd : g 0 ≤ 9999) : GOK (rRem g) := by
  have hG' := hG
  obtain ⟨g1, g2, g3, g4, g5, -, -, -, ⟨g9, -⟩⟩ := hG
  unfold rRem
  by_cases h : 8 ≤ g 116
  · rw [if_pos h]
    have d116 : rDrop g 116 = 7 := by unfold rDrop; rw [if_neg (by omega), if_pos rfl]
    have d0 : rDrop g 0 = g 0 := by unfold rDrop; rw [if_neg (by omega), if_neg (by omega)]
    exact GOK_put (GOK_drop hG' (by omega)) (by rw [d116]; omega) (by rw [d0]; exact hd)
  · rw [if_neg h]
    exact GOK_put hG' (by omega) hd
theorem rRem_lo (hG : GOK g) {i : Int} (hi : i < 116) : rRem g i = g i := by
  obtain ⟨-, -, -, -, -, -, -, -, ⟨g9, -⟩⟩ := hG
  unfold rRem
  split
  · unfold rPut
    have d116 : rDrop g 116 = 7 := by unfold rDrop; rw [if_neg (by omega), if_pos rfl]
    rw [d116, if_neg (by omega), if_neg (by omega)]
    unfold rDrop
    rw [if_neg (by omega), if_neg (by omega)]
  · unfold rPut
    rw [if_neg (by omega), if_neg (by omega)]
theorem TRc_undo (hT : TRc σ 1 g) (hG : GOK g) (h8 : 0 < g 116) : TRc (undC σ) 1 (rUndo g) := by
  have hG' := hG
  obtain ⟨g1, g2, g3, g4, g5, ⟨g6, -⟩, ⟨g7, -⟩, ⟨g8, -⟩, ⟨g9, g9'⟩⟩ := hG
  obtain ⟨⟨e0, e1, e2⟩, hl, ho, ⟨s1, s2⟩, ⟨n1, n2⟩, ⟨m1, m2⟩, ⟨p1, p2⟩⟩ := hT
  have p1 : gg σ 13 1 = g 116 := p1
  have hF : (undF σ : Int) = 13 * (g 116 - 1) := by unfold undF; omega
  have d116 : rUndo g 116 = g 116 - 1 := by unfold rUndo; rw [if_neg (by omega), if_pos rfl]
  have dn : ∀ i : Int, 13 ≤ i → ¬ i = 116 → rUndo g i = g i := fun i h1 h2 => by unfold rUndo; rw [if_neg (by omega), if_neg h2]
  have di : ∀ i : Int, 0 ≤ i → i < 13 → rUndo g i = g (117 + 13 * (g 116 - 1) + i) := fun i h1 h2 => by unfold rUndo; rw [if_pos ⟨h1, h2⟩]
  obtain ⟨q1, q2, q3⟩ := p2 (g 116 - 1) (by omega) (by omega)
  obtain ⟨r1, r2, r3⟩ := g9' (g 116 - 1) (by omega) (by omega)
  have uA : ∀ a b, ¬ (a = 13 ∧ b = 1) → gg (undA σ) a b = gg σ a b := fun a b h => gg_ug_ne _ _ _ _ _ _ h
  have uB : ∀ a b, ¬ (a = 13 ∧ b = 1) → ¬ a = 6 → gg (undB σ) a b = gg σ a b := fun a b h h2 => by unfold undB; rw [gg_mR, if_neg h2, uA a b h]
  have uD : ∀ a b, ¬ (a = 13 ∧ b = 1) → ¬ a = 6 → ¬ a = 4 → gg (undD σ) a b = gg σ a b := fun a b h h2 h3 => by unfold undD; rw [gg_mR, if_neg h3, uB a b h h2]
  have u : ∀ a b, ¬ (a = 13 ∧ b = 1) → ¬ a = 6 → ¬ a = 4 → ¬ (a = 1 ∧ b = 2) → gg (undC σ) a b = gg σ a b := fun a b h h2 h3 h4 => by unfold undC; rw [gg_ug_ne _ _ _ _ _ _ h4, uD a b h h2 h3]
  have ua' : ∀ a (x : Int), ¬ a = 13 → ¬ a = 6 → ¬ a = 4 → ¬ a = 1 → ga (undC σ) a x = ga σ a x := fun a x h h2 h3 h4 => u a _ (by omega) h2 h3 (by omega)
  have c13 : gg (undC σ) 13 1 = g 116 - 1 := by
    unfold undC
    rw [gg_ug_ne _ _ _ _ _ _ (by omega)]
    unfold undD
    rw [gg_mR, if_neg (by omega)]
    unfold undB
    rw [gg_mR, if_neg (by omega)]
    unfold undA
    rw [gg_ug_eq, p1, wr_id ⟨by omega, by omega⟩]
  have c12 : gg (undC σ) 1 2 = g (117 + 13 * (g 116 - 1)) := by
    unfold undC
    rw [gg_ug_eq, wr_id (ga_in _ _ _), hF, show 13 * (g 116 - 1) + 5 + 7 = 13 * (g 116 - 1) + 12 by omega, ← q3]
    exact uD 14 _ (by omega) (by omega) (by omega)
  have c6 : ∀ o : Int, 0 ≤ o → o < 5 → ga (undC σ) 6 o = ga σ 14 (13 * (g 116 - 1) + o) := fun o c f => by
    unfold undC
    rw [ga_ug_ne _ _ _ _ _ _ (by omega)]
    unfold undD
    rw [ga_mR_ne _ (by omega)]
    unfold undB
    rw [ga_mR _ _ _ _ _ _ c, if_pos rfl, if_pos ⟨by omega, by omega⟩, wr_id (ga_in _ _ _)]
    rw [show ((undF σ : Int) + ((o.toNat - 0 : Nat) : Int)) = 13 * (g 116 - 1) + o by omega]
    exact uA 14 _ (by omega)
  have c4 : ∀ l : Int, 0 ≤ l → l < 7 → ga (undC σ) 4 l = ga σ 14 (13 * (g 116 - 1) + 5 + l) := fun l c f => by
    unfold undC
    rw [ga_ug_ne _ _ _ _ _ _ (by omega)]
    unfold undD
    rw [ga_mR _ _ _ _ _ _ c, if_pos rfl, if_pos ⟨by omega, by omega⟩, wr_id (ga_in _ _ _)]
    rw [show ((undF σ : Int) + 5 + ((l.toNat - 0 : Nat) : Int)) = 13 * (g 116 - 1) + 5 + l by omega]
    exact uB 14 _ (by omega) (by omega)
  refine ⟨⟨?_, ?_, ?_⟩, fun l a b => ⟨?_, ?_, ?_⟩, fun o a b => ⟨?_, ?_⟩, ⟨?_, fun i a b => ?_⟩, ⟨?_, fun i a b => ?_⟩, ⟨?_, fun i a b => ?_⟩, ⟨?_, fun p a b => ?_⟩⟩
  · rw [u 1 0 (by omega) (by omega) (by omega) (by omega), dn _ (by omega) (by omega), e0]
  · rw [u 1 1 (by omega) (by omega) (by omega) (by omega), dn _ (by omega) (by omega), e1]
  · rw [c12, di _ (by omega) (by omega), Int.add_zero]
  · rw [dn _ (by omega) (by omega)] at b
    rw [ua' 2 _ (by omega) (by omega) (by omega) (by omega), dn _ (by omega) (by omega)]; exact (hl l a b).1
  · rw [dn _ (by omega) (by omega)] at b
    rw [ua' 3 _ (by omega) (by omega) (by omega) (by omega), dn _ (by omega) (by omega)]; exact (hl l a b).2.1
  · rw [dn _ (by omega) (by omega)] at b
    rw [show (1 + 3 : Nat) = 4 from rfl, c4 l a (by omega), di _ (by omega) (by omega), show 117 + 13 * (g 116 - 1) + (6 + l) = 123 + 13 * (g 116 - 1) + l by omega]
    exact q2 l a b
  · rw [dn _ (by omega) (by omega)] at b
    rw [ua' 5 _ (by omega) (by omega) (by omega) (by omega), dn _ (by omega) (by omega)]; exact (ho o a b).1
  · rw [dn _ (by omega) (by omega)] at b
    rw [show (1 + 5 : Nat) = 6 from rfl, c6 o a (by omega), di _ (by omega) (by omega), show 117 + 13 * (g 116 - 1) + (1 + o) = 118 + 13 * (g 116 - 1) + o by omega]
    exact q1 o a b
  · rw [u 7 3 (by omega) (by omega) (by omega) (by omega), dn _ (by omega) (by omega)]; exact s1
  · rw [dn _ (by omega) (by omega)] at b
    rw [ua' 8 _ (by omega) (by omega) (by omega) (by omega), dn _ (by omega) (by omega)]; exact s2 i a b
  · rw [u 9 3 (by omega) (by omega) (by omega) (by omega), dn _ (by omega) (by omega)]; exact n1
  · rw [dn _ (by omega) (by omega)] at b
    rw [ua' 10 _ (by omega) (by omega) (by omega) (by omega), dn _ (by omega) (by omega)]; exact n2 i a b
  · rw [u 11 3 (by omega) (by omega) (by omega) (by omega), dn _ (by omega) (by omega)]; exact m1
  · rw [dn _ (by omega) (by omega)] at b
    rw [ua' 12 _ (by omega) (by omega) (by omega) (by omega), dn _ (by omega) (by omega)]; exact m2 i a b
  · exact c13.trans d116.symm
  · rw [d116] at b
    obtain ⟨z1, z2, z3⟩ := p2 p a (by omega)
    refine ⟨fun o c f => ?_, fun l c f => ?_, ?_⟩
    · rw [dn _ (by omega) (by omega)] at f
      rw [ua' 14 _ (by omega) (by omega) (by omega) (by omega), dn _ (by omega) (by omega)]; exact z1 o c f
    · rw [dn _ (by omega) (by omega)] at f
      rw [ua' 14 _ (by omega) (by omega) (by omega) (by omega), dn _ (by omega) (by omega)]; exact z2 l c f
    · rw [ua' 14 _ (by omega) (by omega) (by omega) (by omega), dn _ (by omega) (by omega)]; exact z3
theorem GOK_undo (hG : GOK g) (h8 : 0 < g 116) : GOK (rUndo g) ∧ rUndo g 0 ≤ 9999 := by
  obtain ⟨g1, g2, g3, g4, g5, ⟨g6, g6'⟩, ⟨g7, g7'⟩, ⟨g8, g8'⟩, ⟨g9, g9'⟩⟩ := hG
  have d116 : rUndo g 116 = g 116 - 1 := by unfold rUndo; rw [if_neg (by omega), if_pos rfl]
  have dn : ∀ i : Int, 13 ≤ i → ¬ i = 116 → rUndo g i = g i := fun i h1 h2 => by unfold rUndo; rw [if_neg (by omega), if_neg h2]
  have di : ∀ i : Int, 0 ≤ i → i < 13 → rUndo g i = g (117 + 13 * (g 116 - 1) + i) := fun i h1 h2 => by unfold rUndo; rw [if_pos ⟨h1, h2⟩]
  obtain ⟨r1, r2, r3⟩ := g9' (g 116 - 1) (by omega) (by omega)
  have d0 : rUndo g 0 = g (117 + 13 * (g 116 - 1)) := by rw [di _ (by omega) (by omega), Int.add_zero]
  refine ⟨?_, by rw [d0]; omega⟩
  unfold GOK
  rw [dn 13 (by omega) (by omega), dn 28 (by omega) (by omega), d0, dn 34 (by omega) (by omega), dn 60 (by omega) (by omega), dn 91 (by omega) (by omega), d116]
  refine ⟨g1, g2, by omega, fun l a b => ?_, fun o a b => ?_, ⟨g6, fun i a b => ?_⟩, ⟨g7, fun i a b => ?_⟩, ⟨g8, fun i a b => ?_⟩, ⟨by omega, fun p a b => ?_⟩⟩
  · rw [dn _ (by omega) (by omega), dn _ (by omega) (by omega), di (6 + l) (by omega) (by omega), show 117 + 13 * (g 116 - 1) + (6 + l) = 123 + 13 * (g 116 - 1) + l by omega]
    obtain ⟨z1, z2, z3⟩ := g4 l a b
    exact ⟨z1, z2, r3 l a b⟩
  · rw [dn _ (by omega) (by omega), di (1 + o) (by omega) (by omega), show 117 + 13 * (g 116 - 1) + (1 + o) = 118 + 13 * (g 116 - 1) + o by omega]
    exact ⟨(g5 o a b).1, r2 o a b⟩
  · rw [dn _ (by omega) (by omega), dn _ (by omega) (by omega), dn _ (by omega) (by omega), dn _ (by omega) (by omega), dn _ (by omega) (by omega)]; exact g6' i a b
  · rw [dn _ (by omega) (by omega), dn _ (by omega) (by omega), dn _ (by omega) (by omega), dn _ (by omega) (by omega), dn _ (by omega) (by omega)]; exact g7' i a b
  · rw [dn _ (by omega) (by omega), dn _ (by omega) (by omega), dn _ (by omega) (by omega), dn _ (by omega) (by omega)]; exact g8' i a b
  · obtain ⟨q1, q2, q3⟩ := g9' p a (by omega)
    refine ⟨?_, fun o c f => ?_, fun l c f => ?_⟩
    · rw [dn _ (by omega) (by omega)]; exact q1
    · rw [dn _ (by omega) (by omega)]; exact q2 o c f
    · rw [dn _ (by omega) (by omega)]; exact q3 l c f
/-- a town that became as another holds its row -/
theorem TRc_cp {u : Nat} (hT : TRc σ u g) (hG : GOK g) (h : t + 14 ≤ u ∨ u + 14 ≤ t) : TRc (cpT t u σ) t g := by
  obtain ⟨g1, g2, g3, g4, g5, ⟨g6, -⟩, ⟨g7, -⟩, ⟨g8, -⟩, ⟨g9, g9'⟩⟩ := hG
  obtain ⟨⟨e0, e1, e2⟩, hl, ho, ⟨s1, s2⟩, ⟨n1, n2⟩, ⟨m1, m2⟩, ⟨p1, p2⟩⟩ := hT
  unfold cpT cpPs cpTb cpHd
  refine ⟨⟨?_, ?_, ?_⟩, fun l a b => ⟨?_, ?_, ?_⟩, fun o a b => ⟨?_, ?_⟩, ⟨?_, fun i a b => ?_⟩, ⟨?_, fun i a b => ?_⟩, ⟨?_, fun i a b => ?_⟩, ⟨?_, fun p a b => ?_⟩⟩
  · rw [← e0]; simp (disch := first | omega | exact gg_in _ _ _) only [gg_cp_ne, gg_ug_ne, gg_ug_eq, wr_id]
  · rw [← e1]; simp (disch := first | omega | exact gg_in _ _ _) only [gg_cp_ne, gg_ug_ne, gg_ug_eq, wr_id]
  · rw [← e2]; simp (disch := first | omega | exact gg_in _ _ _) only [gg_cp_ne, gg_ug_ne, gg_ug_eq, wr_id]
  · rw [← (hl l a b).1]; simp (disch := omega) only [ga_cp_ne, ga_ug_ne, ga_cp_eq]
  · rw [← (hl l a b).2.1]; simp (disch := omega) only [ga_cp_ne, ga_ug_ne, ga_cp_eq]
  · rw [← (hl l a b).2.2]; simp (disch := omega) only [ga_cp_ne, ga_ug_ne, ga_cp_eq]
  · rw [← (ho o a b).1]; simp (disch := omega) only [ga_cp_ne, ga_ug_ne, ga_cp_eq]
  · rw [← (ho o a b).2]; simp (disch := omega) only [ga_cp_ne, ga_ug_ne, ga_cp_eq]
  · rw [← s1]; simp (disch := first | omega | exact gg_in _ _ _) only [gg_cp_ne, gg_ug_ne, gg_ug_eq, wr_id]
  · rw [← s2 i a b]; simp (disch := omega) only [ga_cp_ne, ga_ug_ne, ga_cp_eq]
  · rw [← n1]; simp (disch := first | omega | exact gg_in _ _ _) only [gg_cp_ne, gg_ug_ne, gg_ug_eq, wr_id]
  · rw [← n2 i a b]; simp (disch := omega) only [ga_cp_ne, ga_ug_ne, ga_cp_eq]
  · rw [← m1]; simp (disch := first | omega | exact gg_in _ _ _) only [gg_cp_ne, gg_ug_ne, gg_ug_eq, wr_id]
  · rw [← m2 i a b]; simp (disch := omega) only [ga_cp_ne, ga_ug_ne, ga_cp_eq]
  · rw [← p1]; simp (disch := first | omega | exact gg_in _ _ _) only [gg_cp_ne, gg_ug_ne, gg_ug_eq, wr_id]
  · obtain ⟨q1, q2, q3⟩ := p2 p a b
    refine ⟨fun o c f => ?_, fun l c f => ?_, ?_⟩
    · rw [← q1 o c f]; simp (disch := omega) only [ga_cp_ne, ga_ug_ne, ga_cp_eq]
    · rw [← q2 l c f]; simp (disch := omega) only [ga_cp_ne, ga_ug_ne, ga_cp_eq]
    · rw [← q3]; simp (disch := omega) only [ga_cp_ne, ga_ug_ne, ga_cp_eq]
/-- all else stays -/
theorem cpT_else {u : Nat} {a b : Nat} (h : ¬ (t ≤ a ∧ a ≤ t + 13)) : gg (cpT t u σ) a b = gg σ a b := by
  unfold cpT cpPs cpTb cpHd
  simp (disch := omega) only [gg_cp_ne, gg_ug_ne]
theorem cpT_gl {u : Nat} {a b : Nat} : gl (cpT t u σ) a b = gl σ a b := rfl
theorem cpT_tc {u : Nat} {a b : Nat} (h : a = t + 6 ∨ a = t + 8 ∨ a = t + 10) (hb : b ≤ 1) : gg (cpT t u σ) a b = gg σ a b := by
  unfold cpT cpPs cpTb cpHd
  simp (disch := omega) only [gg_cp_ne, gg_ug_ne]
end ROWS3
