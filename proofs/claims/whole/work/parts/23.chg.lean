-- towns that change: tables, wiping, copying, what comes anew
section CHG
variable {d : Nat} {σ : SG} {K : AV → SG → Prop} {Q : AV → SG → Prop} {t : Nat}
theorem m2 {p : Nat} (hp : shC p = 1) : Cal (d + 1) 2 [.inr (.inr (.inl p))] σ aU (ug σ p 1 0) := by
  refine Cal_in (ls := [.inr (.inr (.inl p))]) rfl mna_2 mml_2 mhl_2 rfl rfl ?_
  simp (disch := first | with_reducible assumption | omega | exact ga_in _ _ _ | exact gg_in _ _ _ | (unfold InR; omega) | (unfold InL; omega)) only [q2_0, q2_1, q2_2, q2_5, pushR_I, pushR_L, pushR_R, pushR_V, InR_gg, InR_ga, InR_wr, InL_gl, InR_b, b01, b01_0, if_true, if_false, not_true_eq_false, not_false_eq_true, and_true, true_and, and_self, Sum.inl.injEq]
theorem k2 {p : Nat} (hp : shC p = 1) : CalK (d + 1) 2 [.inr (.inr (.inl p))] σ K = K aU (ug σ p 1 0) := CalK_eq (m2 hp)
theorem m29 {k : Nat} (hk : shC k = 4) : Cal (d + 1) 29 [.inr (.inr (.inl k))] σ (.inl (gg σ k 3)) (ug σ k 3 0) := by
  refine Cal_in (ls := [.inr (.inr (.inl k)), aU]) rfl mna_29 mml_29 mhl_29 rfl rfl ?_
  simp (disch := first | with_reducible assumption | omega | exact ga_in _ _ _ | exact gg_in _ _ _ | (unfold InR; omega) | (unfold InL; omega)) only [q29_0, q29_1, q29_4, q29_5, q29_6, q29_7, q29_10, q29_11, pushR_I, pushR_L, pushR_R, pushR_V, InR_gg, InR_ga, InR_wr, InL_gl, InR_b, b01, b01_0, if_true, if_false, not_true_eq_false, not_false_eq_true, and_true, true_and, and_self, Sum.inl.injEq]
theorem k29 {k : Nat} (hk : shC k = 4) : CalK (d + 1) 29 [.inr (.inr (.inl k))] σ K = K (.inl (gg σ k 3)) (ug σ k 3 0) := CalK_eq (m29 hk)
theorem m26 {k : Nat} (hk : shC k = 4) : Cal (d + 1) 26 [.inr (.inr (.inl k))] σ (.inl (if gg σ k 3 < gg σ k 0 then 0 else 1)) σ := by
  refine Cal_in (ls := [.inr (.inr (.inl k))]) rfl mna_26 mml_26 mhl_26 rfl rfl ?_
  simp (disch := first | with_reducible assumption | omega | exact ga_in _ _ _ | exact gg_in _ _ _ | (unfold InR; omega) | (unfold InL; omega)) only [q26_0, q26_1, q26_4, q26_5, q26_8, q26_11, q26_12, q26_15, q26_16, pushR_I, pushR_L, pushR_R, pushR_V, InR_gg, InR_ga, InR_wr, InL_gl, InR_b, b01, b01_0, if_true, if_false, not_true_eq_false, not_false_eq_true, and_true, true_and, and_self, Sum.inl.injEq]
  split <;> simp
theorem k26 {k : Nat} (hk : shC k = 4) : CalK (d + 1) 26 [.inr (.inr (.inl k))] σ K = K (.inl (if gg σ k 3 < gg σ k 0 then 0 else 1)) σ := CalK_eq (m26 hk)
theorem m28 {k c : Nat} (hk : shC k = 4) (hc : shR k 2 = c) (hc2 : shC c = 100) {i j : Int} (h0 : 0 ≤ i * gg σ k 1 + j) (h1 : i * gg σ k 1 + j < (shL c : Int)) : Cal (d + 2) 28 [.inr (.inr (.inl k)), .inl i, .inl j] σ (.inl (ga σ c (i * gg σ k 1 + j))) σ := by
  subst hc
  refine Cal_in (ls := [.inr (.inr (.inl k)), .inl i, .inl j]) rfl mna_28 mml_28 mhl_28 rfl rfl ?_
  simp (disch := first | with_reducible assumption | omega | exact ga_in _ _ _ | exact gg_in _ _ _ | (unfold InR; omega) | (unfold InL; omega)) only [q28_0, q28_1, q28_4, q28_5, q28_6, q28_9, q28_10, q28_11, q28_12, q28_15, k89, pushR_I, pushR_L, pushR_R, pushR_V, InR_gg, InR_ga, InR_wr, InL_gl, InR_b, b01, b01_0, if_true, if_false, not_true_eq_false, not_false_eq_true, and_true, true_and, and_self, Sum.inl.injEq]
theorem k28 {k c : Nat} (hk : shC k = 4) (hc : shR k 2 = c) (hc2 : shC c = 100) {i j : Int} (h0 : 0 ≤ i * gg σ k 1 + j) (h1 : i * gg σ k 1 + j < (shL c : Int)) : CalK (d + 2) 28 [.inr (.inr (.inl k)), .inl i, .inl j] σ K = K (.inl (ga σ c (i * gg σ k 1 + j))) σ := CalK_eq (m28 hk hc hc2 h0 h1)
theorem l91 {s t N : Nat} (hs : shC s = 100) (ht : shC t = 100) (hne : ¬ s = t) (h1 : shL s = N) (h2 : shL t = N) : ∀ (n i : Nat), i + n = N → Wp none d 91 2 [.inr (.inr (.inl s)), .inr (.inr (.inl t)), .inl (i : Int)] [] (mR σ t 0 i (fun j => ga σ s (j : Int))) Q = Wp none d 91 26 [.inr (.inr (.inl s)), .inr (.inr (.inl t)), .inl (N : Int)] [] (mR σ t 0 N (fun j => ga σ s (j : Int))) Q := by
  have g1 := shL_le s
  intro n
  induction n with
  | zero =>
    intro i h
    have e : i = N := by omega
    subst e
    simp (disch := first | with_reducible assumption | omega | exact ga_in _ _ _ | exact gg_in _ _ _ | (unfold InR; omega) | (unfold InL; omega)) only [q91_2, q91_3, q91_4, q91_5, h1, Int.le_refl, pushR_I, pushR_L, pushR_R, pushR_V, InR_gg, InR_ga, InR_wr, InL_gl, InR_b, b01, b01_0, if_true, if_false, not_true_eq_false, not_false_eq_true, and_true, true_and, and_self, Sum.inl.injEq]
  | succ n ih =>
    intro i h
    have e : ¬ (N : Int) ≤ (i : Int) := by omega
    have er : ga (mR σ t 0 i (fun j => ga σ s (j : Int))) s (i : Int) = ga σ s (i : Int) := ga_mR_ne σ hne
    simp (disch := first | with_reducible assumption | omega | exact ga_in _ _ _ | exact gg_in _ _ _ | (unfold InR; omega) | (unfold InL; omega)) only [q91_2, q91_3, q91_4, q91_5, q91_8, q91_9, q91_10, q91_11, q91_14, q91_15, q91_16, q91_17, q91_18, q91_19, q91_20, h1, h2, e, er, pushR_I, pushR_L, pushR_R, pushR_V, InR_gg, InR_ga, InR_wr, InL_gl, InR_b, b01, b01_0, if_true, if_false, not_true_eq_false, not_false_eq_true, and_true, true_and, and_self, Sum.inl.injEq]
    rw [q91_23, mR_step (b := 0) (i := i) (g := fun j => ga σ s (j : Int)) σ (by omega) rfl]
    exact ih (i + 1) (by omega)
theorem m91 {s t N : Nat} (hs : shC s = 100) (ht : shC t = 100) (hne : ¬ s = t) (h1 : shL s = N) (h2 : shL t = N) : Cal (d + 1) 91 [.inr (.inr (.inl s)), .inr (.inr (.inl t))] σ aU (mR σ t 0 N (fun j => ga σ s (j : Int))) := by
  refine Cal_in (ls := [.inr (.inr (.inl s)), .inr (.inr (.inl t)), aU]) rfl mna_91 mml_91 mhl_91 rfl rfl ?_
  simp (disch := first | with_reducible assumption | omega | exact ga_in _ _ _ | exact gg_in _ _ _ | (unfold InR; omega) | (unfold InL; omega)) only [q91_0, q91_1, pushR_I, pushR_L, pushR_R, pushR_V, InR_gg, InR_ga, InR_wr, InL_gl, InR_b, b01, b01_0, if_true, if_false, not_true_eq_false, not_false_eq_true, and_true, true_and, and_self, Sum.inl.injEq]
  have h := l91 (d := d) (σ := σ) (Q := fun r1 σ1 => r1 = aU ∧ σ1 = mR σ t 0 N (fun j => ga σ s (j : Int))) hs ht hne h1 h2 N 0 (by omega)
  rw [mR_0] at h
  refine h.mpr ?_
  simp (disch := first | with_reducible assumption | omega | exact ga_in _ _ _ | exact gg_in _ _ _ | (unfold InR; omega) | (unfold InL; omega)) only [q91_26, pushR_I, pushR_L, pushR_R, pushR_V, InR_gg, InR_ga, InR_wr, InL_gl, InR_b, b01, b01_0, if_true, if_false, not_true_eq_false, not_false_eq_true, and_true, true_and, and_self, Sum.inl.injEq]
theorem k91 {s t N : Nat} (hs : shC s = 100) (ht : shC t = 100) (hne : ¬ s = t) (h1 : shL s = N) (h2 : shL t = N) : CalK (d + 1) 91 [.inr (.inr (.inl s)), .inr (.inr (.inl t))] σ K = K aU (mR σ t 0 N (fun j => ga σ s (j : Int))) := CalK_eq (m91 hs ht hne h1 h2)
/-- wiped -/
def wipeT (σ : SG) (t : Nat) : SG := ug (ug (ug (ug (ug (ug (ug σ t 0 0) t 1 0) t 2 0) (t + 6) 3 0) (t + 8) 3 0) (t + 10) 3 0) (t + 12) 1 0
theorem m32 (hT : isT t) : Cal (d + 2) 32 [.inr (.inr (.inl t))] σ aU (wipeT σ t) := by
  obtain ⟨f0, f3, f4, f5, f6, f7, f8, f9, f10, f11⟩ := isT_f hT
  obtain ⟨⟨t1, t2, t3, t4⟩, -⟩ := isT_t hT
  refine Cal_in (ls := [.inr (.inr (.inl t))]) rfl mna_32 mml_32 mhl_32 rfl rfl ?_
  simp (disch := first | with_reducible assumption | omega | exact ga_in _ _ _ | exact gg_in _ _ _ | (unfold InR; omega) | (unfold InL; omega)) only [q32_0, q32_1, q32_2, q32_5, q32_6, q32_7, q32_10, q32_11, q32_12, q32_15, q32_16, q32_19, q32_22, q32_23, q32_24, q32_27, q32_30, q32_31, q32_32, q32_35, q32_38, q32_39, q32_40, q32_43, q32_46, f8, f9, f10, f11, k29, k2, pushR_I, pushR_L, pushR_R, pushR_V, InR_gg, InR_ga, InR_wr, InL_gl, InR_b, b01, b01_0, if_true, if_false, not_true_eq_false, not_false_eq_true, and_true, true_and, and_self, Sum.inl.injEq]
  rfl
theorem k32 (hT : isT t) : CalK (d + 2) 32 [.inr (.inr (.inl t))] σ K = K aU (wipeT σ t) := CalK_eq (m32 hT)
def cpTab (σ : SG) (a b N : Nat) : SG := mR (ug σ a 3 (gg σ b 3)) (a + 1) 0 N (fun j => ga σ (b + 1) (j : Int))
theorem m30 {a b N : Nat} (ha : shC a = 4) (hb : shC b = 4) (ra : shR a 2 = a + 1) (rb : shR b 2 = b + 1) (ca : shC (a + 1) = 100) (cb : shC (b + 1) = 100) (la : shL (a + 1) = N) (lb : shL (b + 1) = N) (hne : ¬ b + 1 = a + 1) (hne2 : ¬ b + 1 = a) : Cal (d + 2) 30 [.inr (.inr (.inl a)), .inr (.inr (.inl b))] σ aU (cpTab σ a b N) := by
  have e : (fun j : Nat => ga (ug σ a 3 (gg σ b 3)) (b + 1) (j : Int)) = (fun j : Nat => ga σ (b + 1) (j : Int)) := funext fun j => ga_ug_ne _ _ _ _ _ _ hne2
  refine Cal_in (ls := [.inr (.inr (.inl a)), .inr (.inr (.inl b))]) rfl mna_30 mml_30 mhl_30 rfl rfl ?_
  simp (disch := first | with_reducible assumption | omega | exact ga_in _ _ _ | exact gg_in _ _ _ | (unfold InR; omega) | (unfold InL; omega)) only [q30_0, q30_1, q30_2, q30_5, q30_8, q30_9, q30_12, q30_13, q30_16, q30_19, ra, rb, k91 cb ca hne lb la, e, pushR_I, pushR_L, pushR_R, pushR_V, InR_gg, InR_ga, InR_wr, InL_gl, InR_b, b01, b01_0, if_true, if_false, not_true_eq_false, not_false_eq_true, and_true, true_and, and_self, Sum.inl.injEq]
  rfl
theorem k30 {a b N : Nat} (ha : shC a = 4) (hb : shC b = 4) (ra : shR a 2 = a + 1) (rb : shR b 2 = b + 1) (ca : shC (a + 1) = 100) (cb : shC (b + 1) = 100) (la : shL (a + 1) = N) (lb : shL (b + 1) = N) (hne : ¬ b + 1 = a + 1) (hne2 : ¬ b + 1 = a) : CalK (d + 2) 30 [.inr (.inr (.inl a)), .inr (.inr (.inl b))] σ K = K aU (cpTab σ a b N) := CalK_eq (m30 ha hb ra rb ca cb la lb hne hne2)
def cpPast (σ : SG) (a b : Nat) : SG := mR (ug σ a 1 (gg σ b 1)) (a + 1) 0 104 (fun j => ga σ (b + 1) (j : Int))
theorem m3 {a b : Nat} (ha : shC a = 1) (hb : shC b = 1) (ra : shR a 0 = a + 1) (rb : shR b 0 = b + 1) (ca : shC (a + 1) = 100) (cb : shC (b + 1) = 100) (la : shL (a + 1) = 104) (lb : shL (b + 1) = 104) (hne : ¬ b + 1 = a + 1) (hne2 : ¬ b + 1 = a) : Cal (d + 2) 3 [.inr (.inr (.inl a)), .inr (.inr (.inl b))] σ aU (cpPast σ a b) := by
  have e : (fun j : Nat => ga (ug σ a 1 (gg σ b 1)) (b + 1) (j : Int)) = (fun j : Nat => ga σ (b + 1) (j : Int)) := funext fun j => ga_ug_ne _ _ _ _ _ _ hne2
  refine Cal_in (ls := [.inr (.inr (.inl a)), .inr (.inr (.inl b))]) rfl mna_3 mml_3 mhl_3 rfl rfl ?_
  simp (disch := first | with_reducible assumption | omega | exact ga_in _ _ _ | exact gg_in _ _ _ | (unfold InR; omega) | (unfold InL; omega)) only [q3_0, q3_1, q3_2, q3_5, q3_8, q3_9, q3_12, q3_13, q3_16, q3_19, ra, rb, k91 cb ca hne lb la, e, pushR_I, pushR_L, pushR_R, pushR_V, InR_gg, InR_ga, InR_wr, InL_gl, InR_b, b01, b01_0, if_true, if_false, not_true_eq_false, not_false_eq_true, and_true, true_and, and_self, Sum.inl.injEq]
  rfl
theorem k3 {a b : Nat} (ha : shC a = 1) (hb : shC b = 1) (ra : shR a 0 = a + 1) (rb : shR b 0 = b + 1) (ca : shC (a + 1) = 100) (cb : shC (b + 1) = 100) (la : shL (a + 1) = 104) (lb : shL (b + 1) = 104) (hne : ¬ b + 1 = a + 1) (hne2 : ¬ b + 1 = a) : CalK (d + 2) 3 [.inr (.inr (.inl a)), .inr (.inr (.inl b))] σ K = K aU (cpPast σ a b) := CalK_eq (m3 ha hb ra rb ca cb la lb hne hne2)
theorem m36 (hT : isT t) {kd u : Int} (h0 : 0 ≤ gg σ t 0) (h7 : gg σ t 0 < 7) : Cal (d + 2) 36 [.inr (.inr (.inl t)), .inl kd, .inl u] σ (.inl (gg σ t 0)) (ug (ua (ua (ua σ (t + 1) (gg σ t 0) kd) (t + 2) (gg σ t 0) u) (t + 3) (gg σ t 0) 0) t 0 (gg σ t 0 + 1)) := by
  obtain ⟨f0, f3, f4, f5, f6, f7, f8, f9, f10, f11⟩ := isT_f hT
  obtain ⟨⟨a1, a2, a3, a4, a5⟩, l1, l2, l3, l4, l5⟩ := isT_a hT
  refine Cal_in (ls := [.inr (.inr (.inl t)), .inl kd, .inl u]) rfl mna_36 mml_36 mhl_36 rfl rfl ?_
  simp (disch := first | with_reducible assumption | omega | exact ga_in _ _ _ | exact gg_in _ _ _ | (unfold InR; omega) | (unfold InL; omega)) only [q36_0, q36_1, q36_4, q36_5, q36_8, q36_9, q36_12, q36_13, q36_16, q36_17, q36_20, q36_21, q36_24, q36_25, q36_28, q36_29, q36_32, q36_33, q36_36, q36_37, q36_38, q36_41, q36_42, q36_43, q36_46, q36_47, q36_50, q36_51, q36_52, f3, f4, f5, k90, gg_ug_eq, gg_ug_ne, gg_ua_ne, ga_ug_ne, ga_ua_ne, ga_ua_eq, ga_ua_ni, wr_id, pushR_I, pushR_L, pushR_R, pushR_V, InR_gg, InR_ga, InR_wr, InL_gl, InR_b, b01, b01_0, if_true, if_false, not_true_eq_false, not_false_eq_true, and_true, true_and, and_self, Sum.inl.injEq]
  omega
theorem k36 (hT : isT t) {kd u : Int} (h0 : 0 ≤ gg σ t 0) (h7 : gg σ t 0 < 7) : CalK (d + 2) 36 [.inr (.inr (.inl t)), .inl kd, .inl u] σ K = K (.inl (gg σ t 0)) (ug (ua (ua (ua σ (t + 1) (gg σ t 0) kd) (t + 2) (gg σ t 0) u) (t + 3) (gg σ t 0) 0) t 0 (gg σ t 0 + 1)) := CalK_eq (m36 hT h0 h7)
theorem m37 (hT : isT t) {kd : Int} (h0 : 0 ≤ gg σ t 1) (h7 : gg σ t 1 < 5) : Cal (d + 2) 37 [.inr (.inr (.inl t)), .inl kd] σ (.inl (gg σ t 1)) (ug (ua (ua σ (t + 4) (gg σ t 1) kd) (t + 5) (gg σ t 1) 0) t 1 (gg σ t 1 + 1)) := by
  obtain ⟨f0, f3, f4, f5, f6, f7, f8, f9, f10, f11⟩ := isT_f hT
  obtain ⟨⟨a1, a2, a3, a4, a5⟩, l1, l2, l3, l4, l5⟩ := isT_a hT
  refine Cal_in (ls := [.inr (.inr (.inl t)), .inl kd]) rfl mna_37 mml_37 mhl_37 rfl rfl ?_
  simp (disch := first | with_reducible assumption | omega | exact ga_in _ _ _ | exact gg_in _ _ _ | (unfold InR; omega) | (unfold InL; omega)) only [q37_0, q37_1, q37_4, q37_5, q37_8, q37_9, q37_12, q37_13, q37_16, q37_17, q37_20, q37_21, q37_24, q37_25, q37_26, q37_29, q37_30, q37_31, q37_34, q37_35, q37_38, q37_39, q37_40, f6, f7, k90, gg_ug_eq, gg_ug_ne, gg_ua_ne, ga_ug_ne, ga_ua_ne, ga_ua_eq, ga_ua_ni, wr_id, pushR_I, pushR_L, pushR_R, pushR_V, InR_gg, InR_ga, InR_wr, InL_gl, InR_b, b01, b01_0, if_true, if_false, not_true_eq_false, not_false_eq_true, and_true, true_and, and_self, Sum.inl.injEq]
  omega
theorem k37 (hT : isT t) {kd : Int} (h0 : 0 ≤ gg σ t 1) (h7 : gg σ t 1 < 5) : CalK (d + 2) 37 [.inr (.inr (.inl t)), .inl kd] σ K = K (.inl (gg σ t 1)) (ug (ua (ua σ (t + 4) (gg σ t 1) kd) (t + 5) (gg σ t 1) 0) t 1 (gg σ t 1 + 1)) := CalK_eq (m37 hT h0 h7)
end CHG
