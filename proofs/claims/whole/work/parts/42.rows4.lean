-- the bounds of rows that change
section ROWS4
variable {σ τ : SG} {g h : Int → Int} {t : Nat}
theorem GOK_rest (hG : GOK g) (hg : ∀ i : Int, 34 ≤ i → i < 221 → h i = g i) (e13 : h 13 = g 13) (e28 : h 28 = g 28) (e0 : 0 ≤ h 0 ∧ h 0 ≤ 100000)
    (c2 : ∀ l : Int, 0 ≤ l → l < g 13 → (0 ≤ h (14 + l) ∧ h (14 + l) ≤ 5) ∧ (1 ≤ h (21 + l) ∧ h (21 + l) ≤ 9) ∧ (0 ≤ h (6 + l) ∧ h (6 + l) ≤ 9))
    (c3 : ∀ o : Int, 0 ≤ o → o < g 28 → (0 ≤ h (29 + o) ∧ h (29 + o) ≤ 5) ∧ (0 ≤ h (1 + o) ∧ h (1 + o) ≤ 99)) : GOK h := by
  obtain ⟨g1, g2, g3, g4, g5, ⟨g6, g6'⟩, ⟨g7, g7'⟩, ⟨g8, g8'⟩, ⟨g9, g9'⟩⟩ := hG
  unfold GOK
  rw [e13, e28, hg 34 (by omega) (by omega), hg 60 (by omega) (by omega), hg 91 (by omega) (by omega), hg 116 (by omega) (by omega)]
  refine ⟨g1, g2, e0, c2, c3, ⟨g6, fun i a b => ?_⟩, ⟨g7, fun i a b => ?_⟩, ⟨g8, fun i a b => ?_⟩, ⟨g9, fun p a b => ?_⟩⟩
  · rw [hg _ (by omega) (by omega), hg _ (by omega) (by omega), hg _ (by omega) (by omega), hg _ (by omega) (by omega), hg _ (by omega) (by omega)]; exact g6' i a b
  · rw [hg _ (by omega) (by omega), hg _ (by omega) (by omega), hg _ (by omega) (by omega), hg _ (by omega) (by omega), hg _ (by omega) (by omega)]; exact g7' i a b
  · rw [hg _ (by omega) (by omega), hg _ (by omega) (by omega), hg _ (by omega) (by omega), hg _ (by omega) (by omega)]; exact g8' i a b
  · obtain ⟨q1, q2, q3⟩ := g9' p a b
    refine ⟨?_, fun o c f => ?_, fun l c f => ?_⟩
    · rw [hg _ (by omega) (by omega)]; exact q1
    · rw [hg _ (by omega) (by omega)]; exact q2 o c f
    · rw [hg _ (by omega) (by omega)]; exact q3 l c f
theorem GOK_say (hG : GOK g) {l o : Int} (hl : 0 ≤ l ∧ l < g 13) (ho : 0 ≤ o ∧ o < g 28) : GOK (rSay g l o) := by
  have hG' := hG
  have bt := (tkG_b hG hl ho).2
  obtain ⟨g1, g2, g3, g4, g5, -⟩ := hG
  have dn : ∀ i : Int, ¬ i = 6 + l → ¬ i = 1 + o → rSay g l o i = g i := fun i h1 h2 => by unfold rSay; rw [if_neg h1, if_neg h2]
  refine GOK_rest hG' (fun i h1 h2 => dn i (by omega) (by omega)) (dn _ (by omega) (by omega)) (dn _ (by omega) (by omega)) (by rw [dn _ (by omega) (by omega)]; exact g3) (fun j a b => ?_) (fun j a b => ?_)
  · obtain ⟨z1, z2, z3⟩ := g4 j a b
    rw [dn (14 + j) (by omega) (by omega), dn (21 + j) (by omega) (by omega)]
    refine ⟨z1, z2, ?_⟩
    by_cases e : j = l
    · subst e
      unfold rSay
      rw [if_pos rfl]
      exact kn1_b z3
    · rw [dn _ (by omega) (by omega)]; exact z3
  · obtain ⟨z1, z2⟩ := g5 j a b
    rw [dn (29 + j) (by omega) (by omega)]
    refine ⟨z1, ?_⟩
    by_cases e : j = o
    · subst e
      unfold rSay
      rw [if_neg (by omega), if_pos rfl]
      exact heI_b z2 bt.1
    · rw [dn _ (by omega) (by omega)]; exact z2
theorem GOK_forget (hG : GOK g) {l : Int} (hl : 0 ≤ l ∧ l < g 13) : GOK (r0 g (6 + l)) := by
  have hG' := hG
  obtain ⟨g1, g2, g3, g4, g5, -⟩ := hG
  have dn : ∀ i : Int, ¬ i = 6 + l → r0 g (6 + l) i = g i := fun i h1 => by unfold r0; rw [if_neg h1]
  refine GOK_rest hG' (fun i h1 h2 => dn i (by omega)) (dn _ (by omega)) (dn _ (by omega)) (by rw [dn _ (by omega)]; exact g3) (fun j a b => ?_) (fun j a b => ?_)
  · obtain ⟨z1, z2, z3⟩ := g4 j a b
    rw [dn (14 + j) (by omega), dn (21 + j) (by omega)]
    refine ⟨z1, z2, ?_⟩
    by_cases e : j = l
    · subst e
      unfold r0
      rw [if_pos rfl]
      omega
    · rw [dn _ (by omega)]; exact z3
  · rw [dn (29 + j) (by omega), dn (1 + j) (by omega)]
    exact g5 j a b
theorem GOK_day (hG : GOK g) (hd : g 0 < 100000) : GOK (rDay g) := by
  have hG' := hG
  obtain ⟨g1, g2, g3, g4, g5, -⟩ := hG
  have dn : ∀ i : Int, 6 ≤ i → rDay g i = g i := fun i h1 => by unfold rDay; rw [if_neg (by omega), if_neg (by omega)]
  have d0 : rDay g 0 = g 0 + 1 := by unfold rDay; rw [if_neg (by omega), if_pos rfl]
  refine GOK_rest hG' (fun i h1 h2 => dn i (by omega)) (dn _ (by omega)) (dn _ (by omega)) (by rw [d0]; omega) (fun j a b => ?_) (fun j a b => ?_)
  · rw [dn (14 + j) (by omega), dn (21 + j) (by omega), dn (6 + j) (by omega)]
    exact g4 j a b
  · obtain ⟨z1, z2⟩ := g5 j a b
    rw [dn (29 + j) (by omega)]
    refine ⟨z1, ?_⟩
    unfold rDay
    rw [if_pos ⟨by omega, by omega⟩]
    exact coI_b z2 (by omega)
theorem rDay_0 (g : Int → Int) : rDay g 0 = g 0 + 1 := by unfold rDay; rw [if_neg (by omega), if_pos rfl]
theorem rDay_hi {i : Int} (h1 : 6 ≤ i) : rDay g i = g i := by unfold rDay; rw [if_neg (by omega), if_neg (by omega)]
theorem rDays_hi : ∀ (n : Nat) (g : Int → Int) {i : Int}, 6 ≤ i → rDays n g i = g i := by
  intro n
  induction n with
  | zero => intro g i _; rfl
  | succ n ih =>
    intro g i h
    simp only [rDays]
    split
    · rfl
    · rw [ih _ h, rDay_hi h]
theorem GOK_days : ∀ (n : Nat) (g : Int → Int), GOK g → g 0 ≤ 9999 → GOK (rDays n g) ∧ rDays n g 0 ≤ 9999 := by
  intro n
  induction n with
  | zero => intro g h h0; exact ⟨h, h0⟩
  | succ n ih =>
    intro g h h0
    simp only [rDays]
    by_cases q : 9999 ≤ g 0
    · rw [if_pos q]; exact ⟨h, h0⟩
    · rw [if_neg q]
      exact ih _ (GOK_day h (by omega)) (by rw [rDay_0]; omega)
theorem TRc_days : ∀ (n : Nat) (g : Int → Int) (σ : SG), TRc σ t g → GOK g → TRc (daysT t n σ) t (rDays n g) := by
  intro n
  induction n with
  | zero => intro g σ h _; exact h
  | succ n ih =>
    intro g σ h hG
    simp only [rDays, daysT]
    have e : gg σ t 2 = g 0 := h.1.2.2
    rw [e]
    by_cases q : 9999 ≤ g 0
    · rw [if_pos q, if_pos q]; exact h
    · rw [if_neg q, if_neg q]
      exact ih _ _ (TRc_day h hG) (GOK_day hG (by omega))
theorem GOK_lie (hG : GOK g) {kd u : Int} (h7 : g 13 < 7) (z116 : g 116 = 0) (hk : 0 ≤ kd ∧ kd ≤ 5) (hu : 1 ≤ u ∧ u ≤ 9) : GOK (rLie g kd u) := by
  obtain ⟨g1, g2, g3, g4, g5, ⟨g6, g6'⟩, ⟨g7, g7'⟩, ⟨g8, g8'⟩, ⟨g9, g9'⟩⟩ := hG
  have d13 : rLie g kd u 13 = g 13 + 1 := by unfold rLie; rw [if_neg (by omega), if_neg (by omega), if_neg (by omega), if_pos rfl]
  have dn : ∀ i : Int, i ≠ 14 + g 13 → i ≠ 21 + g 13 → i ≠ 6 + g 13 → i ≠ 13 → rLie g kd u i = g i := fun i h1 h2 h3 h4 => by unfold rLie; rw [if_neg h1, if_neg h2, if_neg h3, if_neg h4]
  have d14 : rLie g kd u (14 + g 13) = kd := by unfold rLie; rw [if_pos rfl]
  have d21 : rLie g kd u (21 + g 13) = u := by unfold rLie; rw [if_neg (by omega), if_pos rfl]
  have d6 : rLie g kd u (6 + g 13) = 0 := by unfold rLie; rw [if_neg (by omega), if_neg (by omega), if_pos rfl]
  have dh : ∀ i : Int, 28 ≤ i → rLie g kd u i = g i := fun i h => dn i (by omega) (by omega) (by omega) (by omega)
  unfold GOK
  rw [d13, dh 28 (by omega), dn 0 (by omega) (by omega) (by omega) (by omega), dh 34 (by omega), dh 60 (by omega), dh 91 (by omega), dh 116 (by omega)]
  refine ⟨by omega, g2, g3, fun l a b => ?_, fun o a b => ?_, ⟨g6, fun i a b => ?_⟩, ⟨g7, fun i a b => ?_⟩, ⟨g8, fun i a b => ?_⟩, ⟨g9, fun p a b => by omega⟩⟩
  · by_cases e : l = g 13
    · subst e
      rw [d14, d21, d6]
      omega
    · rw [dn (14 + l) (by omega) (by omega) (by omega) (by omega), dn (21 + l) (by omega) (by omega) (by omega) (by omega), dn (6 + l) (by omega) (by omega) (by omega) (by omega)]
      exact g4 l a (by omega)
  · rw [dh _ (by omega), dn _ (by omega) (by omega) (by omega) (by omega)]; exact g5 o a b
  · rw [dh _ (by omega), dh _ (by omega), dh _ (by omega), dh _ (by omega), dh _ (by omega)]; exact g6' i a b
  · rw [dh _ (by omega), dh _ (by omega), dh _ (by omega), dh _ (by omega), dh _ (by omega)]
    have := g7' i a b
    omega
  · rw [dh _ (by omega), dh _ (by omega), dh _ (by omega), dh _ (by omega)]; exact g8' i a b
theorem GOK_oven (hG : GOK g) {kd : Int} (h5 : g 28 < 5) (z116 : g 116 = 0) (hk : 0 ≤ kd ∧ kd ≤ 5) : GOK (rOven g kd) := by
  obtain ⟨g1, g2, g3, g4, g5, ⟨g6, g6'⟩, ⟨g7, g7'⟩, ⟨g8, g8'⟩, ⟨g9, g9'⟩⟩ := hG
  have d28 : rOven g kd 28 = g 28 + 1 := by unfold rOven; rw [if_neg (by omega), if_neg (by omega), if_pos rfl]
  have dn : ∀ i : Int, i ≠ 29 + g 28 → i ≠ 1 + g 28 → i ≠ 28 → rOven g kd i = g i := fun i h1 h2 h3 => by unfold rOven; rw [if_neg h1, if_neg h2, if_neg h3]
  have d29 : rOven g kd (29 + g 28) = kd := by unfold rOven; rw [if_pos rfl]
  have d1 : rOven g kd (1 + g 28) = 0 := by unfold rOven; rw [if_neg (by omega), if_pos rfl]
  have dh : ∀ i : Int, 34 ≤ i → rOven g kd i = g i := fun i h => dn i (by omega) (by omega) (by omega)
  unfold GOK
  rw [d28, dn 13 (by omega) (by omega) (by omega), dn 0 (by omega) (by omega) (by omega), dh 34 (by omega), dh 60 (by omega), dh 91 (by omega), dh 116 (by omega)]
  refine ⟨g1, by omega, g3, fun l a b => ?_, fun o a b => ?_, ⟨g6, fun i a b => ?_⟩, ⟨g7, fun i a b => ?_⟩, ⟨g8, fun i a b => ?_⟩, ⟨g9, fun p a b => by omega⟩⟩
  · rw [dn _ (by omega) (by omega) (by omega), dn _ (by omega) (by omega) (by omega), dn _ (by omega) (by omega) (by omega)]; exact g4 l a b
  · by_cases e : o = g 28
    · subst e
      rw [d29, d1]
      omega
    · rw [dn _ (by omega) (by omega) (by omega), dn _ (by omega) (by omega) (by omega)]
      exact g5 o a (by omega)
  · rw [dh _ (by omega), dh _ (by omega), dh _ (by omega), dh _ (by omega), dh _ (by omega)]
    have := g6' i a b
    omega
  · rw [dh _ (by omega), dh _ (by omega), dh _ (by omega), dh _ (by omega), dh _ (by omega)]; exact g7' i a b
  · rw [dh _ (by omega), dh _ (by omega), dh _ (by omega), dh _ (by omega)]
    have := g8' i a b
    omega
theorem GOK_r0 (hG : GOK g) {z : Int} (hz : z = 34 ∨ z = 60 ∨ z = 91 ∨ z = 116) : GOK (r0 g z) := by
  obtain ⟨g1, g2, g3, g4, g5, ⟨g6, g6'⟩, ⟨g7, g7'⟩, ⟨g8, g8'⟩, ⟨g9, g9'⟩⟩ := hG
  have dn : ∀ i : Int, ¬ i = z → r0 g z i = g i := fun i h1 => by unfold r0; rw [if_neg h1]
  have dz : r0 g z z = 0 := by unfold r0; rw [if_pos rfl]
  have key : ∀ y : Int, r0 g z y = 0 ∨ r0 g z y = g y := fun y => by unfold r0; split <;> simp
  have k34 := key 34
  have k60 := key 60
  have k91 := key 91
  have k116 := key 116
  unfold GOK
  rw [dn 13 (by omega), dn 28 (by omega), dn 0 (by omega)]
  refine ⟨g1, g2, g3, fun l a b => ?_, fun o a b => ?_, ⟨by omega, fun i a b => ?_⟩, ⟨by omega, fun i a b => ?_⟩, ⟨by omega, fun i a b => ?_⟩, ⟨by omega, fun p a b => ?_⟩⟩
  · rw [dn _ (by omega), dn _ (by omega), dn _ (by omega)]; exact g4 l a b
  · rw [dn _ (by omega), dn _ (by omega)]; exact g5 o a b
  · rw [dn _ (by omega), dn _ (by omega), dn _ (by omega), dn _ (by omega), dn _ (by omega)]; exact g6' i a (by omega)
  · rw [dn _ (by omega), dn _ (by omega), dn _ (by omega), dn _ (by omega), dn _ (by omega)]; exact g7' i a (by omega)
  · rw [dn _ (by omega), dn _ (by omega), dn _ (by omega), dn _ (by omega)]; exact g8' i a (by omega)
  · obtain ⟨q1, q2, q3⟩ := g9' p a (by omega)
    refine ⟨?_, fun o c f => ?_, fun l c f => ?_⟩
    · rw [dn _ (by omega)]; exact q1
    · rw [dn _ (by omega)]; exact q2 o c f
    · rw [dn _ (by omega)]; exact q3 l c f
theorem v5_0 (a b c e f : Int) : v5 a b c e f 0 = a := rfl
theorem v5_1 (a b c e f : Int) : v5 a b c e f 1 = b := rfl
theorem v5_2 (a b c e f : Int) : v5 a b c e f 2 = c := rfl
theorem v5_3 (a b c e f : Int) : v5 a b c e f 3 = e := rfl
theorem v5_4 (a b c e f : Int) : v5 a b c e f 4 = f := rfl
theorem GOK_seen (hG : GOK g) {a b c e f : Int} (hn : g 34 < 5) (ha : 0 ≤ a ∧ a < g 28) (hb : 0 ≤ b ∧ b ≤ 99) (hc : 0 ≤ c ∧ c ≤ 9) (he : 0 ≤ e ∧ e ≤ 99) (hf : 0 ≤ f ∧ f ≤ 60) : GOK (rTab g 34 35 5 (v5 a b c e f)) := by
  obtain ⟨g1, g2, g3, g4, g5, ⟨g6, g6'⟩, ⟨g7, g7'⟩, ⟨g8, g8'⟩, ⟨g9, g9'⟩⟩ := hG
  have hz : rTab g 34 35 5 (v5 a b c e f) 34 = g 34 + 1 := rTab_z (by omega)
  have dn : ∀ i : Int, (i < 34 ∨ 60 ≤ i) → rTab g 34 35 5 (v5 a b c e f) i = g i := fun i h => rTab_n (by omega) (by omega)
  unfold GOK
  rw [dn 13 (by omega), dn 28 (by omega), dn 0 (by omega), hz, dn 60 (by omega), dn 91 (by omega), dn 116 (by omega)]
  refine ⟨g1, g2, g3, fun l a b => ?_, fun o a b => ?_, ⟨by omega, fun i x y => ?_⟩, ⟨by omega, fun i a b => ?_⟩, ⟨by omega, fun i a b => ?_⟩, ⟨by omega, fun p a b => ?_⟩⟩
  · rw [dn _ (by omega), dn _ (by omega), dn _ (by omega)]; exact g4 l a b
  · rw [dn _ (by omega), dn _ (by omega)]; exact g5 o a b
  · by_cases q : i = g 34
    · subst q
      rw [rTab_i (by omega) (by omega), rTab_i (by omega) (by omega), rTab_i (by omega) (by omega), rTab_i (by omega) (by omega), rTab_i (by omega) (by omega),
        show 35 + 5 * g 34 - (35 + 5 * g 34) = 0 by omega, show 36 + 5 * g 34 - (35 + 5 * g 34) = 1 by omega, show 37 + 5 * g 34 - (35 + 5 * g 34) = 2 by omega, show 38 + 5 * g 34 - (35 + 5 * g 34) = 3 by omega, show 39 + 5 * g 34 - (35 + 5 * g 34) = 4 by omega, v5_0, v5_1, v5_2, v5_3, v5_4]
      exact ⟨ha, hb, hc, he, hf⟩
    · rw [rTab_n (by omega) (by omega), rTab_n (by omega) (by omega), rTab_n (by omega) (by omega), rTab_n (by omega) (by omega), rTab_n (by omega) (by omega)]
      exact g6' i x (by omega)
  · rw [dn _ (by omega), dn _ (by omega), dn _ (by omega), dn _ (by omega), dn _ (by omega)]; exact g7' i a b
  · rw [dn _ (by omega), dn _ (by omega), dn _ (by omega), dn _ (by omega)]; exact g8' i a b
  · obtain ⟨q1, q2, q3⟩ := g9' p a b
    refine ⟨?_, fun o c f => ?_, fun l c f => ?_⟩
    · rw [dn _ (by omega)]; exact q1
    · rw [dn _ (by omega)]; exact q2 o c f
    · rw [dn _ (by omega)]; exact q3 l c f
theorem GOK_note (hG : GOK g) {a b c e f : Int} (hn : g 60 < 6) (ha : 0 ≤ a ∧ a < g 13) (hb : 1 ≤ b ∧ b ≤ 9) (hc : 0 ≤ c ∧ c ≤ 9) (he : 0 ≤ e ∧ e ≤ 99) (hf : 0 ≤ f ∧ f ≤ 60) : GOK (rTab g 60 61 5 (v5 a b c e f)) := by
  obtain ⟨g1, g2, g3, g4, g5, ⟨g6, g6'⟩, ⟨g7, g7'⟩, ⟨g8, g8'⟩, ⟨g9, g9'⟩⟩ := hG
  have hz : rTab g 60 61 5 (v5 a b c e f) 60 = g 60 + 1 := rTab_z (by omega)
  have dn : ∀ i : Int, (i < 60 ∨ 91 ≤ i) → rTab g 60 61 5 (v5 a b c e f) i = g i := fun i h => rTab_n (by omega) (by omega)
  unfold GOK
  rw [dn 13 (by omega), dn 28 (by omega), dn 0 (by omega), hz, dn 34 (by omega), dn 91 (by omega), dn 116 (by omega)]
  refine ⟨g1, g2, g3, fun l a b => ?_, fun o a b => ?_, ⟨by omega, fun i x y => ?_⟩, ⟨by omega, fun i x y => ?_⟩, ⟨by omega, fun i a b => ?_⟩, ⟨by omega, fun p a b => ?_⟩⟩
  · rw [dn _ (by omega), dn _ (by omega), dn _ (by omega)]; exact g4 l a b
  · rw [dn _ (by omega), dn _ (by omega)]; exact g5 o a b
  · rw [dn _ (by omega), dn _ (by omega), dn _ (by omega), dn _ (by omega), dn _ (by omega)]; exact g6' i x y
  · by_cases q : i = g 60
    · subst q
      rw [rTab_i (by omega) (by omega), rTab_i (by omega) (by omega), rTab_i (by omega) (by omega), rTab_i (by omega) (by omega), rTab_i (by omega) (by omega),
        show 61 + 5 * g 60 - (61 + 5 * g 60) = 0 by omega, show 62 + 5 * g 60 - (61 + 5 * g 60) = 1 by omega, show 63 + 5 * g 60 - (61 + 5 * g 60) = 2 by omega, show 64 + 5 * g 60 - (61 + 5 * g 60) = 3 by omega, show 65 + 5 * g 60 - (61 + 5 * g 60) = 4 by omega, v5_0, v5_1, v5_2, v5_3, v5_4]
      exact ⟨ha, hb, hc, he, hf⟩
    · rw [rTab_n (by omega) (by omega), rTab_n (by omega) (by omega), rTab_n (by omega) (by omega), rTab_n (by omega) (by omega), rTab_n (by omega) (by omega)]
      exact g7' i x (by omega)
  · rw [dn _ (by omega), dn _ (by omega), dn _ (by omega), dn _ (by omega)]; exact g8' i a b
  · obtain ⟨q1, q2, q3⟩ := g9' p a b
    refine ⟨?_, fun o c f => ?_, fun l c f => ?_⟩
    · rw [dn _ (by omega)]; exact q1
    · rw [dn _ (by omega)]; exact q2 o c f
    · rw [dn _ (by omega)]; exact q3 l c f
theorem GOK_mark (hG : GOK g) {a b c e f : Int} (hn : g 91 < 6) (ha : 0 ≤ a ∧ a < g 28) (hb : 0 ≤ b ∧ b ≤ 99) (hc : 0 ≤ c ∧ c ≤ 60) (he : 0 ≤ e ∧ e ≤ 60) : GOK (rTab g 91 92 4 (v5 a b c e f)) := by
  obtain ⟨g1, g2, g3, g4, g5, ⟨g6, g6'⟩, ⟨g7, g7'⟩, ⟨g8, g8'⟩, ⟨g9, g9'⟩⟩ := hG
  have hz : rTab g 91 92 4 (v5 a b c e f) 91 = g 91 + 1 := rTab_z (by omega)
  have dn : ∀ i : Int, (i < 91 ∨ 116 ≤ i) → rTab g 91 92 4 (v5 a b c e f) i = g i := fun i h => rTab_n (by omega) (by omega)
  unfold GOK
  rw [dn 13 (by omega), dn 28 (by omega), dn 0 (by omega), hz, dn 34 (by omega), dn 60 (by omega), dn 116 (by omega)]
  refine ⟨g1, g2, g3, fun l a b => ?_, fun o a b => ?_, ⟨by omega, fun i x y => ?_⟩, ⟨by omega, fun i x y => ?_⟩, ⟨by omega, fun i x y => ?_⟩, ⟨by omega, fun p a b => ?_⟩⟩
  · rw [dn _ (by omega), dn _ (by omega), dn _ (by omega)]; exact g4 l a b
  · rw [dn _ (by omega), dn _ (by omega)]; exact g5 o a b
  · rw [dn _ (by omega), dn _ (by omega), dn _ (by omega), dn _ (by omega), dn _ (by omega)]; exact g6' i x y
  · rw [dn _ (by omega), dn _ (by omega), dn _ (by omega), dn _ (by omega), dn _ (by omega)]; exact g7' i x y
  · by_cases q : i = g 91
    · subst q
      rw [rTab_i (by omega) (by omega), rTab_i (by omega) (by omega), rTab_i (by omega) (by omega), rTab_i (by omega) (by omega),
        show 92 + 4 * g 91 - (92 + 4 * g 91) = 0 by omega, show 93 + 4 * g 91 - (92 + 4 * g 91) = 1 by omega, show 94 + 4 * g 91 - (92 + 4 * g 91) = 2 by omega, show 95 + 4 * g 91 - (92 + 4 * g 91) = 3 by omega, v5_0, v5_1, v5_2, v5_3]
      exact ⟨ha, hb, hc, he⟩
    · rw [rTab_n (by omega) (by omega), rTab_n (by omega) (by omega), rTab_n (by omega) (by omega), rTab_n (by omega) (by omega)]
      exact g8' i x (by omega)
  · obtain ⟨q1, q2, q3⟩ := g9' p a b
    refine ⟨?_, fun o c f => ?_, fun l c f => ?_⟩
    · rw [dn _ (by omega)]; exact q1
    · rw [dn _ (by omega)]; exact q2 o c f
    · rw [dn _ (by omega)]; exact q3 l c f
theorem GOK_zero (h0 : ∀ i : Int, 0 ≤ i → i < 221 → g i = 0) : GOK g := by
  unfold GOK
  rw [h0 13 (by omega) (by omega), h0 28 (by omega) (by omega), h0 0 (by omega) (by omega), h0 34 (by omega) (by omega), h0 60 (by omega) (by omega), h0 91 (by omega) (by omega), h0 116 (by omega) (by omega)]
  exact ⟨by omega, by omega, by omega, fun l a b => by omega, fun l a b => by omega, ⟨by omega, fun l a b => by omega⟩, ⟨by omega, fun l a b => by omega⟩, ⟨by omega, fun l a b => by omega⟩, ⟨by omega, fun l a b => by omega⟩⟩
theorem GOK_row (hG : GOK g) (e : ∀ i : Int, 0 ≤ i → i < 221 → h i = g i) : GOK h := by
  obtain ⟨g1, g2, g3, g4, g5, ⟨g6, g6'⟩, ⟨g7, g7'⟩, ⟨g8, g8'⟩, ⟨g9, g9'⟩⟩ := hG
  unfold GOK
  rw [e 13 (by omega) (by omega), e 28 (by omega) (by omega), e 0 (by omega) (by omega), e 34 (by omega) (by omega), e 60 (by omega) (by omega), e 91 (by omega) (by omega), e 116 (by omega) (by omega)]
  refine ⟨g1, g2, g3, fun l a b => ?_, fun o a b => ?_, ⟨g6, fun i a b => ?_⟩, ⟨g7, fun i a b => ?_⟩, ⟨g8, fun i a b => ?_⟩, ⟨g9, fun p a b => ?_⟩⟩
  · rw [e _ (by omega) (by omega), e _ (by omega) (by omega), e _ (by omega) (by omega)]; exact g4 l a b
  · rw [e _ (by omega) (by omega), e _ (by omega) (by omega)]; exact g5 o a b
  · rw [e _ (by omega) (by omega), e _ (by omega) (by omega), e _ (by omega) (by omega), e _ (by omega) (by omega), e _ (by omega) (by omega)]; exact g6' i a b
  · rw [e _ (by omega) (by omega), e _ (by omega) (by omega), e _ (by omega) (by omega), e _ (by omega) (by omega), e _ (by omega) (by omega)]; exact g7' i a b
  · rw [e _ (by omega) (by omega), e _ (by omega) (by omega), e _ (by omega) (by omega), e _ (by omega) (by omega)]; exact g8' i a b
  · obtain ⟨q1, q2, q3⟩ := g9' p a b
    refine ⟨?_, fun o c f => ?_, fun l c f => ?_⟩
    · rw [e _ (by omega) (by omega)]; exact q1
    · rw [e _ (by omega) (by omega)]; exact q2 o c f
    · rw [e _ (by omega) (by omega)]; exact q3 l c f
end ROWS4
