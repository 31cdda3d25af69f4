-- a town becomes as another
def cp (k s n : Nat) (σ : SG) : SG := mR σ k 0 n (fun j => ga σ s (j : Int))
theorem gg_cp_ne (σ : SG) {k s n a b : Nat} (h : ¬ a = k) : gg (cp k s n σ) a b = gg σ a b := by unfold cp; rw [gg_mR, if_neg h]
theorem ga_cp_ne (σ : SG) {k s n a : Nat} {x : Int} (h : ¬ a = k) : ga (cp k s n σ) a x = ga σ a x := gg_cp_ne σ h
theorem ga_cp_eq (σ : SG) {k s n : Nat} {x : Int} (h0 : 0 ≤ x) (h1 : x < n) : ga (cp k s n σ) k x = ga σ s x := by
  unfold cp
  rw [ga_mR _ _ _ _ _ _ h0, if_pos rfl, if_pos (by omega), wr_id (ga_in _ _ _)]
  congr 1
  omega
def cpHd (t u : Nat) (σ : SG) : SG := ug (ug (ug σ t 0 (gg σ u 0)) t 1 (gg σ u 1)) t 2 (gg σ u 2)
def cpTb (a b n : Nat) (σ : SG) : SG := cp (a + 1) (b + 1) n (ug σ a 3 (gg σ b 3))
def cpPs (a b : Nat) (σ : SG) : SG := cp (a + 1) (b + 1) 104 (ug σ a 1 (gg σ b 1))
def cpT (t u : Nat) (σ : SG) : SG := cpPs (t + 12) (u + 12) (cpTb (t + 10) (u + 10) 24 (cpTb (t + 8) (u + 8) 30 (cpTb (t + 6) (u + 6) 25 (cp (t + 5) (u + 5) 5 (cp (t + 4) (u + 4) 5 (cp (t + 3) (u + 3) 7 (cp (t + 2) (u + 2) 7 (cp (t + 1) (u + 1) 7 (cpHd t u σ)))))))))
theorem cp_def (k s n : Nat) (σ : SG) : mR σ k 0 n (fun j => ga σ s (j : Int)) = cp k s n σ := rfl
theorem cpTb_def (σ : SG) (a b N : Nat) (h : ¬ b + 1 = a) : cpTab σ a b N = cpTb a b N σ := by
  unfold cpTab cpTb cp
  congr 1
  exact funext fun j => (ga_ug_ne _ _ _ _ _ _ h).symm
theorem cpPs_def (σ : SG) (a b : Nat) (h : ¬ b + 1 = a) : cpPast σ a b = cpPs a b σ := by
  unfold cpPast cpPs cp
  congr 1
  exact funext fun j => (ga_ug_ne _ _ _ _ _ _ h).symm
section CPT
variable {d : Nat} {σ : SG} {K : AV → SG → Prop} {t u : Nat}
theorem k91c (s t N : Nat) (hs : shC s = 100) (ht : shC t = 100) (hne : ¬ s = t) (h1 : shL s = N) (h2 : shL t = N) (τ : SG) (K : AV → SG → Prop) : CalK (d + 1) 91 [.inr (.inr (.inl s)), .inr (.inr (.inl t))] τ K = K aU (cp t s N τ) := k91 hs ht hne h1 h2
theorem k30c (a b N : Nat) (ha : shC a = 4) (hb : shC b = 4) (ra : shR a 2 = a + 1) (rb : shR b 2 = b + 1) (ca : shC (a + 1) = 100) (cb : shC (b + 1) = 100) (la : shL (a + 1) = N) (lb : shL (b + 1) = N) (hne : ¬ b + 1 = a + 1) (hne2 : ¬ b + 1 = a) (τ : SG) (K : AV → SG → Prop) : CalK (d + 2) 30 [.inr (.inr (.inl a)), .inr (.inr (.inl b))] τ K = K aU (cpTb a b N τ) := by
  rw [k30 ha hb ra rb ca cb la lb hne hne2, cpTb_def _ _ _ _ hne2]
theorem k3c (a b : Nat) (ha : shC a = 1) (hb : shC b = 1) (ra : shR a 0 = a + 1) (rb : shR b 0 = b + 1) (ca : shC (a + 1) = 100) (cb : shC (b + 1) = 100) (la : shL (a + 1) = 104) (lb : shL (b + 1) = 104) (hne : ¬ b + 1 = a + 1) (hne2 : ¬ b + 1 = a) (τ : SG) (K : AV → SG → Prop) : CalK (d + 2) 3 [.inr (.inr (.inl a)), .inr (.inr (.inl b))] τ K = K aU (cpPs a b τ) := by
  rw [k3 ha hb ra rb ca cb la lb hne hne2, cpPs_def _ _ _ hne2]
theorem isT_apart (hT : isT t) (hU : isT u) (h : ¬ t = u) : t + 14 ≤ u ∨ u + 14 ≤ t := by
  rcases hT with rfl | rfl | rfl | rfl <;> rcases hU with rfl | rfl | rfl | rfl <;> omega
theorem m33 (hT : isT t) (hU : isT u) (h : ¬ t = u) : Cal (d + 3) 33 [.inr (.inr (.inl t)), .inr (.inr (.inl u))] σ aU (cpT t u σ) := by
  have ap := isT_apart hT hU h
  have N1_ : ¬ u + 1 = t + 1 := by omega
  have N2_ : ¬ u + 2 = t + 2 := by omega
  have N3_ : ¬ u + 3 = t + 3 := by omega
  have N4_ : ¬ u + 4 = t + 4 := by omega
  have N5_ : ¬ u + 5 = t + 5 := by omega
  have N6_ : ¬ u + 6 + 1 = t + 6 + 1 := by omega
  have M6_ : ¬ u + 6 + 1 = t + 6 := by omega
  have N7_ : ¬ u + 8 + 1 = t + 8 + 1 := by omega
  have M7_ : ¬ u + 8 + 1 = t + 8 := by omega
  have N8_ : ¬ u + 10 + 1 = t + 10 + 1 := by omega
  have M8_ : ¬ u + 10 + 1 = t + 10 := by omega
  have N9_ : ¬ u + 12 + 1 = t + 12 + 1 := by omega
  have M9_ : ¬ u + 12 + 1 = t + 12 := by omega
  obtain ⟨f0, f3, f4, f5, f6, f7, f8, f9, f10, f11⟩ := isT_f hT
  obtain ⟨⟨a1, a2, a3, a4, a5⟩, l1, l2, l3, l4, l5⟩ := isT_a hT
  obtain ⟨⟨t1, t2, t3, t4⟩, ⟨r1, r2, r3, r4⟩, ⟨c1, c2, c3, c4⟩, ⟨n1, n2, n3, n4⟩⟩ := isT_t hT
  obtain ⟨F0, F3, F4, F5, F6, F7, F8, F9, F10, F11⟩ := isT_f hU
  obtain ⟨⟨A1, A2, A3, A4, A5⟩, L1, L2, L3, L4, L5⟩ := isT_a hU
  obtain ⟨⟨T1, T2, T3, T4⟩, ⟨R1, R2, R3, R4⟩, ⟨C1, C2, C3, C4⟩, ⟨N1, N2, N3, N4⟩⟩ := isT_t hU
  have K1 := k91c (d := d + 1) (u + 1) (t + 1) 7 A1 a1 N1_ L1 l1
  have K2 := k91c (d := d + 1) (u + 2) (t + 2) 7 A2 a2 N2_ L2 l2
  have K3 := k91c (d := d + 1) (u + 3) (t + 3) 7 A3 a3 N3_ L3 l3
  have K4 := k91c (d := d + 1) (u + 4) (t + 4) 5 A4 a4 N4_ L4 l4
  have K5 := k91c (d := d + 1) (u + 5) (t + 5) 5 A5 a5 N5_ L5 l5
  have K6 := k30c (d := d) (t + 6) (u + 6) 25 t1 T1 r1 R1 c1 C1 n1 N1 N6_ M6_
  have K7 := k30c (d := d) (t + 8) (u + 8) 30 t2 T2 r2 R2 c2 C2 n2 N2 N7_ M7_
  have K8 := k30c (d := d) (t + 10) (u + 10) 24 t3 T3 r3 R3 c3 C3 n3 N3 N8_ M8_
  have K9 := k3c (d := d) (t + 12) (u + 12) t4 T4 r4 R4 c4 C4 n4 N4 N9_ M9_
  refine Cal_in (ls := [.inr (.inr (.inl t)), .inr (.inr (.inl u))]) rfl mna_33 mml_33 mhl_33 rfl rfl ?_
  simp (disch := first | with_reducible assumption | omega | exact ga_in _ _ _ | exact gg_in _ _ _ | (unfold InR; omega) | (unfold InL; omega)) only [q33_0, q33_1, q33_2, q33_5, q33_8, q33_9, q33_10, q33_13, q33_16, q33_17, q33_18, q33_21, q33_24, q33_25, q33_28, q33_29, q33_32, q33_35, q33_36, q33_39, q33_40, q33_43, q33_46, q33_47, q33_50, q33_51, q33_54, q33_57, q33_58, q33_61, q33_62, q33_65, q33_68, q33_69, q33_72, q33_73, q33_76, q33_79, q33_80, q33_83, q33_84, q33_87, q33_90, q33_91, q33_94, q33_95, q33_98, q33_101, q33_102, q33_105, q33_106, q33_109, q33_112, q33_113, q33_116, q33_117, q33_120, q33_123, f0, F0, f3, f4, f5, f6, f7, f8, f9, f10, f11, F3, F4, F5, F6, F7, F8, F9, F10, F11, K1, K2, K3, K4, K5, K6, K7, K8, K9, gg_ug_eq, gg_ug_ne, gg_ua_ne, ga_ug_ne, ga_ua_ne, ga_ua_eq, ga_ua_ni, wr_id, pushR_I, pushR_L, pushR_R, pushR_V, InR_gg, InR_ga, InR_wr, InL_gl, InR_b, b01, b01_0, if_true, if_false, not_true_eq_false, not_false_eq_true, and_true, true_and, and_self, Sum.inl.injEq, one0, Bool.false_eq_true]
  all_goals (first | rfl | exact ⟨rfl, rfl⟩ | exact ⟨trivial, trivial⟩)
theorem k33 (hT : isT t) (hU : isT u) (h : ¬ t = u) : CalK (d + 3) 33 [.inr (.inr (.inl t)), .inr (.inr (.inl u))] σ K = K aU (cpT t u σ) := CalK_eq (m33 hT hU h)
end CPT
