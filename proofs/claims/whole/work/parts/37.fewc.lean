-- the fewest sayings: the class's search
theorem SAM_mono {S T : Nat → Nat → Prop} {σ τ : SG} (h : SAM S σ τ) (hs : ∀ a b, S a b → T a b) : SAM T σ τ := ⟨fun a b hn => h.1 a b (fun q => hn (hs a b q)), h.2⟩
theorem TOK_same {σ τ : SG} {t : Nat} (h : TOK σ t) (hs : ∀ a b, t ≤ a → a ≤ t + 5 → gg τ a b = gg σ a b) : TOK τ t := by
  have hga : ∀ a (x : Int), t ≤ a → a ≤ t + 5 → ga τ a x = ga σ a x := fun a x h1 h2 => hs a _ h1 h2
  unfold TOK at h ⊢
  simp (disch := omega) only [hs, hga]
  exact h
theorem ltT_same {σ τ : SG} {t : Nat} {l k : Int} (hs : ∀ a b, t ≤ a → a ≤ t + 5 → gg τ a b = gg σ a b) : ltT τ t l k = ltT σ t l k := by
  have hga : ∀ a (x : Int), t ≤ a → a ≤ t + 5 → ga τ a x = ga σ a x := fun a x h1 h2 => hs a _ h1 h2
  unfold ltT
  rw [hga _ _ (by omega) (by omega), hga _ _ (by omega) (by omega), hs _ _ (by omega) (by omega)]
theorem tkT_same {σ τ : SG} {t : Nat} {l o : Int} (hs : ∀ a b, t ≤ a → a ≤ t + 5 → gg τ a b = gg σ a b) : tkT τ t o l = tkT σ t o l := by
  have hga : ∀ a (x : Int), t ≤ a → a ≤ t + 5 → ga τ a x = ga σ a x := fun a x h1 h2 => hs a _ h1 h2
  unfold tkT
  rw [ltT_same hs, hga _ _ (by omega) (by omega), hga _ _ (by omega) (by omega), hga _ _ (by omega) (by omega)]
/-- less is lit with more hearers -/
theorem plI_mo {u k k2 : Int} (h : k ≤ k2) : plI u k2 ≤ plI u k := by unfold plI; split <;> split <;> omega
theorem fiI_mo {u k k2 : Int} (h0 : 0 ≤ k) (h : k ≤ k2) : fiI u k2 ≤ fiI u k := by have := plI_mo (u := u) h; unfold fiI; split <;> split <;> omega
theorem ltI_mo {kd u k k2 x : Int} (hu : 0 ≤ u ∧ u ≤ 1000) (h0 : 0 ≤ k) (h : k ≤ k2) (hk : k2 ≤ 1000) : ltI kd u k2 x ≤ ltI kd u k x := by
  have a := plI_mo (u := u) h
  have b := fiI_mo (u := u) h0 h
  have c := fiI_b (u := u) (k := k) hu (by omega)
  have e := fiI_b (u := u) (k := k2) hu (by omega)
  unfold ltI
  repeat' split
  all_goals omega
theorem tkI_nn {kd x h : Int} (h0 : 0 ≤ x) (hp : 0 ≤ h) : 0 ≤ tkI kd x h := by
  unfold tkI clI
  repeat' split
  all_goals omega
theorem tkI_mo {kd x x2 h h2 : Int} (h0 : 0 ≤ x2) (hx : x2 ≤ x) (hp : 0 ≤ h) (hh : h ≤ h2) : tkI kd x2 h2 ≤ tkI kd x h := by
  unfold tkI clI
  repeat' split
  all_goals omega
def S62 (c : Nat) (a b : Nat) : Prop := a = 62 ∧ c ≤ b
def S6 (a _b : Nat) : Prop := a = 61 ∨ a = 62 ∨ a = 63
def tkR (σ : SG) (o : Int) (l : Nat) (k h : Int) : Int := tkI (ga σ 5 o) (ltT σ 1 (l : Int) k) h
def fewP (m c : Nat) (σ : SG) (D : Option (List Nat)) (r : AV) (τ : SG) : Prop := SAM (S62 c) σ τ ∧ match D with
  | none => r = .inl 0
  | some L => r = .inl 1 ∧ L.length = m ∧ ∀ j, j < m → ga τ 62 ((c + j : Nat) : Int) = (L.getD j 0 : Int)
theorem ga_nat (σ : SG) (k l : Nat) : ga σ k (l : Int) = gg σ k l := by unfold ga; rw [Int.toNat_natCast]
theorem ug_ga (σ : SG) (k l : Nat) (v : Int) : ua σ k (l : Int) v = ug σ k l v := by unfold ua; rw [Int.toNat_natCast]
theorem few_back {τ χ υ : SG} {c l : Nat} {k v w : Int} (hs : SAM (S62 c) τ χ) (hu : SAM (S62 (c + 1)) (ua (ua χ 62 (c : Int) w) 63 (l : Int) v) υ) (hk : ga τ 63 (l : Int) = k) : SAM (S62 c) τ (ua υ 63 (l : Int) k) := by
  rw [ug_ga, ug_ga] at hu
  rw [ug_ga]
  rw [ga_nat] at hk
  refine ⟨fun a b hn => ?_, fun a b => (hu.2 a b).trans (hs.2 a b)⟩
  by_cases h : a = 63 ∧ b = l
  · obtain ⟨rfl, rfl⟩ := h
    rw [gg_ug_eq, ← hk, wr_id (gg_in _ _ _)]
  · rw [gg_ug_ne _ _ _ _ _ _ h, hu.1 a b (fun q => hn ⟨q.1, by have := q.2; omega⟩), gg_ug_ne _ _ _ _ _ _ h, gg_ug_ne _ _ _ _ _ _ (fun q => hn ⟨q.1, by have := q.2; omega⟩)]
    exact hs.1 a b hn
section FEWC
variable {d : Nat} {σ : SG} {K : AV → SG → Prop} {Q : AV → SG → Prop}
theorem l1 {m c len n : Nat} {h o : Int} {kn : Nat → Int} {τ : SG} (hO : TOK σ 1) (ho : 0 ≤ o ∧ o < gg σ 1 1) (hn : gg σ 1 0 = (n : Int)) (hc : c + m + 1 = len) (hlen : len ≤ 5) (hs : SAM S6 σ τ) (e3 : gg τ 61 3 = ga σ 5 o)
    (hk : ∀ l, l < n → ga τ 63 (l : Int) = kn l ∧ 0 ≤ kn l ∧ kn l ≤ 9) (hh : 0 ≤ h ∧ h ≤ 99)
    (IH : ∀ (l : Nat) (χ : SG), l < n → SAM (S62 c) τ χ → CalE (d + 2) 1 [.inr (.inr (.inl 61)), .inl ((c : Int) + 1), .inl (len : Int), .inl (heI h (tkI (ga σ 5 o) (ltT σ 1 (l : Int) (kn l)) h))] (ua (ua χ 62 (c : Int) (l : Int)) 63 (l : Int) (kn1 (kn l))) (fewP m (c + 1) (ua (ua χ 62 (c : Int) (l : Int)) 63 (l : Int) (kn1 (kn l))) (dfsF n (tkR σ o) m (upk kn l) (heI h (tkR σ o l (kn l) h))))) :
    ∀ (k l : Nat) (χ : SG) (w5 w6 w7 : AV), l + k = n → SAM (S62 c) τ χ → (∀ r χ', fewP (m + 1) c τ (firL (fun l => dfsF n (tkR σ o) m (upk kn l) (heI h (tkR σ o l (kn l) h))) k l) r χ' → Q r χ') → Wp none (d + 2) 1 42 [.inr (.inr (.inl 61)), .inl (c : Int), .inl (len : Int), .inl h, .inl (l : Int), w5, w6, w7] [] χ Q := by
  have hO' := hO
  obtain ⟨o1, o2, o3, o4, o5⟩ := TOK1 hO
  obtain ⟨c1, c2⟩ := o5 o ho.1 ho.2
  intro k
  induction k with
  | zero =>
    intro l χ w5 w6 w7 hl hx hq
    have g0 : gg χ 1 0 = (n : Int) := by rw [hx.1 _ _ (fun q => by have := q.1; omega), hs.1 _ _ (fun q => by unfold S6 at q; omega), hn]
    have eg : (n : Int) ≤ (l : Int) := by omega
    simp (disch := first | with_reducible assumption | omega | exact ga_in _ _ _ | exact gg_in _ _ _ | (unfold InR; omega) | (unfold InL; omega) | (simp only [shC_0, shC_1, shC_2, shC_3, shC_4, shC_5, shC_6, shC_7, shC_8, shC_9, shC_10, shC_11, shC_12, shC_13, shC_14, shC_29, shC_58, shC_59, shC_60, shC_61, shC_62, shC_63, shC_64, shC_65, shC_66, shC_67, shC_68, shC_69, shC_70, shL_2, shL_3, shL_4, shL_5, shL_6, shL_8, shL_10, shL_12, shL_14, shL_29, shL_58, shL_60, shL_62, shL_63, shL_65, shL_66, shL_67, shL_68, shL_69, shL_70]; first | done | omega)) only [q1_42, q1_44, q1_45, q1_48, q1_51, q1_150, q1_151, shC_0, shC_1, shC_2, shC_3, shC_4, shC_5, shC_6, shC_7, shC_8, shC_9, shC_10, shC_11, shC_12, shC_13, shC_14, shC_29, shC_58, shC_59, shC_60, shC_61, shC_62, shC_63, shC_64, shC_65, shC_66, shC_67, shC_68, shC_69, shC_70, shL_2, shL_3, shL_4, shL_5, shL_6, shL_8, shL_10, shL_12, shL_14, shL_29, shL_58, shL_60, shL_62, shL_63, shL_65, shL_66, shL_67, shL_68, shL_69, shL_70, shR_0_0, shR_0_1, shR_0_2, shR_0_3, shR_0_4, shR_0_5, shR_0_6, shR_0_7, shR_1_3, shR_1_4, shR_1_5, shR_1_6, shR_1_7, shR_1_8, shR_1_9, shR_1_10, shR_1_11, shR_7_2, shR_9_2, shR_11_2, shR_13_0, shR_59_0, shR_61_0, shR_61_1, shR_61_2, shR_64_0, shR_64_1, shR_64_2, shR_64_3, shR_64_4, shR_64_5, g0, eg, pushR_I, pushR_L, pushR_R, pushR_V, InR_gg, InR_ga, InR_wr, InL_gl, InR_b, b01, b01_0, if_true, if_false, not_true_eq_false, not_false_eq_true, and_true, true_and, and_self, Sum.inl.injEq, one0, Bool.false_eq_true]
    exact hq _ _ ⟨hx, rfl⟩
  | succ k ih =>
    intro l χ w5 w6 w7 hl hx hq
    have hln : l < n := by omega
    obtain ⟨k1, k2, k3⟩ := hk l hln
    obtain ⟨b1, b2, b3⟩ := o4 (l : Int) (by omega) (by omega)
    have tsame : ∀ a b, 1 ≤ a → a ≤ 1 + 5 → gg χ a b = gg σ a b := fun a b h1 h2 => by
      rw [hx.1 _ _ (fun q => by have := q.1; omega), hs.1 _ _ (fun q => by unfold S6 at q; omega)]
    have g0 : gg χ 1 0 = (n : Int) := by rw [tsame 1 0 (by omega) (by omega), hn]
    have g3 : gg χ 61 3 = ga σ 5 o := by rw [hx.1 _ _ (fun q => by have := q.1; omega), e3]
    have gk : ga χ 63 (l : Int) = kn l := by rw [ga_nat, hx.1 _ _ (fun q => by have := q.1; omega), ← ga_nat, k1]
    have hT : TOK χ 1 := TOK_same hO' tsame
    have gl : ltT χ 1 (l : Int) (kn l) = ltT σ 1 (l : Int) (kn l) := ltT_same tsame
    have gb : 0 ≤ ltT σ 1 (l : Int) (kn l) ∧ ltT σ 1 (l : Int) (kn l) ≤ 4008 := ltI_b (u := ga σ 3 (l : Int)) (by omega) (by omega)
    have gt := tkI_b (kind := ga σ 5 o) gb hh
    have eg : ¬ (n : Int) ≤ (l : Int) := by omega
    simp (disch := first | with_reducible assumption | omega | exact ga_in _ _ _ | exact gg_in _ _ _ | (unfold InR; omega) | (unfold InL; omega) | (simp only [shC_0, shC_1, shC_2, shC_3, shC_4, shC_5, shC_6, shC_7, shC_8, shC_9, shC_10, shC_11, shC_12, shC_13, shC_14, shC_29, shC_58, shC_59, shC_60, shC_61, shC_62, shC_63, shC_64, shC_65, shC_66, shC_67, shC_68, shC_69, shC_70, shL_2, shL_3, shL_4, shL_5, shL_6, shL_8, shL_10, shL_12, shL_14, shL_29, shL_58, shL_60, shL_62, shL_63, shL_65, shL_66, shL_67, shL_68, shL_69, shL_70]; first | done | omega)) only [q1_42, q1_44, q1_45, q1_48, q1_51, q1_54, q1_55, q1_58, q1_60, q1_63, q1_65, q1_66, q1_69, q1_70, q1_73, q1_75, q1_77, q1_80, q1_81, q1_84, q1_86, q1_87, q1_90, q1_91, q1_93, q1_96, q1_97, q1_100, q1_102, q1_104, q1_107, q1_110, q1_111, q1_112, q1_113, q1_114, q1_115, q1_116, q1_118, q1_121, shC_0, shC_1, shC_2, shC_3, shC_4, shC_5, shC_6, shC_7, shC_8, shC_9, shC_10, shC_11, shC_12, shC_13, shC_14, shC_29, shC_58, shC_59, shC_60, shC_61, shC_62, shC_63, shC_64, shC_65, shC_66, shC_67, shC_68, shC_69, shC_70, shL_2, shL_3, shL_4, shL_5, shL_6, shL_8, shL_10, shL_12, shL_14, shL_29, shL_58, shL_60, shL_62, shL_63, shL_65, shL_66, shL_67, shL_68, shL_69, shL_70, shR_0_0, shR_0_1, shR_0_2, shR_0_3, shR_0_4, shR_0_5, shR_0_6, shR_0_7, shR_1_3, shR_1_4, shR_1_5, shR_1_6, shR_1_7, shR_1_8, shR_1_9, shR_1_10, shR_1_11, shR_7_2, shR_9_2, shR_11_2, shR_13_0, shR_59_0, shR_61_0, shR_61_1, shR_61_2, shR_64_0, shR_64_1, shR_64_2, shR_64_3, shR_64_4, shR_64_5, g0, g3, gk, gl, eg, k89, k38 (d := d) (σ := χ) T1 hT, k90, k95, k96, k99, pushR_I, pushR_L, pushR_R, pushR_V, InR_gg, InR_ga, InR_wr, InL_gl, InR_b, b01, b01_0, if_true, if_false, not_true_eq_false, not_false_eq_true, and_true, true_and, and_self, Sum.inl.injEq, one0, Bool.false_eq_true]
    refine CalK_E (IH l χ hln hx) (fun r υ hP => ?_)
    obtain ⟨hS, hD⟩ := hP
    have hb := few_back hx hS k1
    cases hD1 : dfsF n (tkR σ o) m (upk kn l) (heI h (tkR σ o l (kn l) h)) with
    | none =>
      rw [hD1] at hD
      obtain rfl := hD
      simp (disch := first | with_reducible assumption | omega | exact ga_in _ _ _ | exact gg_in _ _ _ | (unfold InR; omega) | (unfold InL; omega) | (simp only [shC_0, shC_1, shC_2, shC_3, shC_4, shC_5, shC_6, shC_7, shC_8, shC_9, shC_10, shC_11, shC_12, shC_13, shC_14, shC_29, shC_58, shC_59, shC_60, shC_61, shC_62, shC_63, shC_64, shC_65, shC_66, shC_67, shC_68, shC_69, shC_70, shL_2, shL_3, shL_4, shL_5, shL_6, shL_8, shL_10, shL_12, shL_14, shL_29, shL_58, shL_60, shL_62, shL_63, shL_65, shL_66, shL_67, shL_68, shL_69, shL_70]; first | done | omega)) only [q1_124, q1_126, q1_127, q1_130, q1_132, q1_134, q1_137, q1_139, q1_142, q1_143, q1_144, shC_0, shC_1, shC_2, shC_3, shC_4, shC_5, shC_6, shC_7, shC_8, shC_9, shC_10, shC_11, shC_12, shC_13, shC_14, shC_29, shC_58, shC_59, shC_60, shC_61, shC_62, shC_63, shC_64, shC_65, shC_66, shC_67, shC_68, shC_69, shC_70, shL_2, shL_3, shL_4, shL_5, shL_6, shL_8, shL_10, shL_12, shL_14, shL_29, shL_58, shL_60, shL_62, shL_63, shL_65, shL_66, shL_67, shL_68, shL_69, shL_70, shR_0_0, shR_0_1, shR_0_2, shR_0_3, shR_0_4, shR_0_5, shR_0_6, shR_0_7, shR_1_3, shR_1_4, shR_1_5, shR_1_6, shR_1_7, shR_1_8, shR_1_9, shR_1_10, shR_1_11, shR_7_2, shR_9_2, shR_11_2, shR_13_0, shR_59_0, shR_61_0, shR_61_1, shR_61_2, shR_64_0, shR_64_1, shR_64_2, shR_64_3, shR_64_4, shR_64_5, k90, pushR_I, pushR_L, pushR_R, pushR_V, InR_gg, InR_ga, InR_wr, InL_gl, InR_b, b01, b01_0, if_true, if_false, not_true_eq_false, not_false_eq_true, and_true, true_and, and_self, Sum.inl.injEq, one0, Bool.false_eq_true]
      rw [q1_147]
      refine ih (l + 1) _ _ _ _ (by omega) hb (fun r χ' hp => hq r χ' ?_)
      simp only [firL, hD1]
      exact hp
    | some L =>
      rw [hD1] at hD
      obtain ⟨rfl, hL, hv⟩ := hD
      simp (disch := first | with_reducible assumption | omega | exact ga_in _ _ _ | exact gg_in _ _ _ | (unfold InR; omega) | (unfold InL; omega) | (simp only [shC_0, shC_1, shC_2, shC_3, shC_4, shC_5, shC_6, shC_7, shC_8, shC_9, shC_10, shC_11, shC_12, shC_13, shC_14, shC_29, shC_58, shC_59, shC_60, shC_61, shC_62, shC_63, shC_64, shC_65, shC_66, shC_67, shC_68, shC_69, shC_70, shL_2, shL_3, shL_4, shL_5, shL_6, shL_8, shL_10, shL_12, shL_14, shL_29, shL_58, shL_60, shL_62, shL_63, shL_65, shL_66, shL_67, shL_68, shL_69, shL_70]; first | done | omega)) only [q1_124, q1_126, q1_127, q1_130, q1_132, q1_134, q1_137, q1_139, q1_142, q1_143, q1_144, shC_0, shC_1, shC_2, shC_3, shC_4, shC_5, shC_6, shC_7, shC_8, shC_9, shC_10, shC_11, shC_12, shC_13, shC_14, shC_29, shC_58, shC_59, shC_60, shC_61, shC_62, shC_63, shC_64, shC_65, shC_66, shC_67, shC_68, shC_69, shC_70, shL_2, shL_3, shL_4, shL_5, shL_6, shL_8, shL_10, shL_12, shL_14, shL_29, shL_58, shL_60, shL_62, shL_63, shL_65, shL_66, shL_67, shL_68, shL_69, shL_70, shR_0_0, shR_0_1, shR_0_2, shR_0_3, shR_0_4, shR_0_5, shR_0_6, shR_0_7, shR_1_3, shR_1_4, shR_1_5, shR_1_6, shR_1_7, shR_1_8, shR_1_9, shR_1_10, shR_1_11, shR_7_2, shR_9_2, shR_11_2, shR_13_0, shR_59_0, shR_61_0, shR_61_1, shR_61_2, shR_64_0, shR_64_1, shR_64_2, shR_64_3, shR_64_4, shR_64_5, k90, pushR_I, pushR_L, pushR_R, pushR_V, InR_gg, InR_ga, InR_wr, InL_gl, InR_b, b01, b01_0, if_true, if_false, not_true_eq_false, not_false_eq_true, and_true, true_and, and_self, Sum.inl.injEq, one0, Bool.false_eq_true]
      refine hq _ _ ⟨hb, ?_⟩
      simp only [firL, hD1]
      refine ⟨trivial, by rw [List.length_cons, hL], fun j hj => ?_⟩
      cases j with
      | zero =>
        rw [ga_ua_ne _ _ _ _ _ _ (by omega), Nat.add_zero, ga_nat, hS.1 _ _ (fun q => by have := q.2; omega), ← ga_nat, ga_ua_ne _ _ _ _ _ _ (by omega), ga_ua_eq, wr_id ⟨by omega, by omega⟩]
        rfl
      | succ j =>
        rw [ga_ua_ne _ _ _ _ _ _ (by omega), show c + (j + 1) = c + 1 + j by omega, hv j (by omega)]
        rfl
theorem m1 {len n : Nat} {o M h0 : Int} {kn0 : Nat → Int} (hO : TOK σ 1) (ho : 0 ≤ o ∧ o < gg σ 1 1) (hn : gg σ 1 0 = (n : Int)) (hlen : len ≤ 5) (h00 : 0 ≤ h0) (hM0 : 0 ≤ M ∧ M ≤ 5000) (hk0 : ∀ l, l < n → 0 ≤ kn0 l)
    (hM : ∀ l k h, l < n → kn0 l ≤ k → k ≤ 9 → h0 ≤ h → 0 ≤ tkR σ o l k h ∧ tkR σ o l k h ≤ M) :
    ∀ (m c : Nat) (τ : SG) (kn : Nat → Int) (h : Int), c + m = len → SAM S6 σ τ → gg τ 61 3 = ga σ 5 o → gg τ 61 4 = M → (∀ l, l < n → ga τ 63 (l : Int) = kn l ∧ kn0 l ≤ kn l ∧ kn l ≤ 9) → h0 ≤ h → h ≤ 99 →
    CalE (d + m + 3) 1 [.inr (.inr (.inl 61)), .inl (c : Int), .inl (len : Int), .inl h] τ (fewP m c τ (dfsF n (tkR σ o) m kn h)) := by
  intro m
  induction m with
  | zero =>
    intro c τ kn h hc hs e3 e4 hk hh0 hh9
    have hc' : (len : Int) ≤ (c : Int) := by omega
    refine Cal_ex (ls := [.inr (.inr (.inl 61)), .inl (c : Int), .inl (len : Int), .inl h, aU, aU, aU, aU]) rfl mna_1 mml_1 mhl_1 rfl rfl ?_
    by_cases hh : 20 ≤ h
    · have hh' : ¬ h < 20 := by omega
      simp (disch := first | with_reducible assumption | omega | exact ga_in _ _ _ | exact gg_in _ _ _ | (unfold InR; omega) | (unfold InL; omega) | (simp only [shC_0, shC_1, shC_2, shC_3, shC_4, shC_5, shC_6, shC_7, shC_8, shC_9, shC_10, shC_11, shC_12, shC_13, shC_14, shC_29, shC_58, shC_59, shC_60, shC_61, shC_62, shC_63, shC_64, shC_65, shC_66, shC_67, shC_68, shC_69, shC_70, shL_2, shL_3, shL_4, shL_5, shL_6, shL_8, shL_10, shL_12, shL_14, shL_29, shL_58, shL_60, shL_62, shL_63, shL_65, shL_66, shL_67, shL_68, shL_69, shL_70]; first | done | omega)) only [q1_0, q1_1, q1_2, q1_5, q1_6, q1_7, q1_10, q1_11, q1_13, q1_16, q1_17, q1_20, q1_21, hc', hh', pushR_I, pushR_L, pushR_R, pushR_V, InR_gg, InR_ga, InR_wr, InL_gl, InR_b, b01, b01_0, if_true, if_false, not_true_eq_false, not_false_eq_true, and_true, true_and, and_self, Sum.inl.injEq, one0, Bool.false_eq_true]
      refine ⟨SAM_refl _ _, ?_⟩
      simp only [dfsF, hh, if_true]
      exact ⟨trivial, rfl, fun j hj => absurd hj (Nat.not_lt_zero j)⟩
    · have hh' : h < 20 := by omega
      simp (disch := first | with_reducible assumption | omega | exact ga_in _ _ _ | exact gg_in _ _ _ | (unfold InR; omega) | (unfold InL; omega) | (simp only [shC_0, shC_1, shC_2, shC_3, shC_4, shC_5, shC_6, shC_7, shC_8, shC_9, shC_10, shC_11, shC_12, shC_13, shC_14, shC_29, shC_58, shC_59, shC_60, shC_61, shC_62, shC_63, shC_64, shC_65, shC_66, shC_67, shC_68, shC_69, shC_70, shL_2, shL_3, shL_4, shL_5, shL_6, shL_8, shL_10, shL_12, shL_14, shL_29, shL_58, shL_60, shL_62, shL_63, shL_65, shL_66, shL_67, shL_68, shL_69, shL_70]; first | done | omega)) only [q1_0, q1_1, q1_2, q1_5, q1_6, q1_7, q1_10, q1_11, q1_13, q1_16, q1_17, q1_20, q1_21, hc', hh', pushR_I, pushR_L, pushR_R, pushR_V, InR_gg, InR_ga, InR_wr, InL_gl, InR_b, b01, b01_0, if_true, if_false, not_true_eq_false, not_false_eq_true, and_true, true_and, and_self, Sum.inl.injEq, one0, Bool.false_eq_true]
      refine ⟨SAM_refl _ _, ?_⟩
      simp only [dfsF, hh, if_false]
  | succ m ih =>
    intro c τ kn h hc hs e3 e4 hk hh0 hh9
    have hc' : ¬ (len : Int) ≤ (c : Int) := by omega
    have hc5 : (c : Int) < 5 := by omega
    have el : (len : Int) - (c : Int) = ((m + 1 : Nat) : Int) := by omega
    have hB0 : 0 ≤ ((m + 1 : Nat) : Int) * M := Int.mul_nonneg (by omega) hM0.1
    have hB1 : ((m + 1 : Nat) : Int) * M ≤ 5 * 5000 := Int.mul_le_mul (by omega) hM0.2 hM0.1 (by omega)
    refine Cal_ex (ls := [.inr (.inr (.inl 61)), .inl (c : Int), .inl (len : Int), .inl h, aU, aU, aU, aU]) rfl mna_1 mml_1 mhl_1 rfl rfl ?_
    by_cases hp : h + ((m + 1 : Nat) : Int) * M < 20
    · have hp' : ¬ 20 ≤ h + ((m + 1 : Nat) : Int) * M := by omega
      simp (disch := first | with_reducible assumption | omega | exact ga_in _ _ _ | exact gg_in _ _ _ | (unfold InR; omega) | (unfold InL; omega) | (simp only [shC_0, shC_1, shC_2, shC_3, shC_4, shC_5, shC_6, shC_7, shC_8, shC_9, shC_10, shC_11, shC_12, shC_13, shC_14, shC_29, shC_58, shC_59, shC_60, shC_61, shC_62, shC_63, shC_64, shC_65, shC_66, shC_67, shC_68, shC_69, shC_70, shL_2, shL_3, shL_4, shL_5, shL_6, shL_8, shL_10, shL_12, shL_14, shL_29, shL_58, shL_60, shL_62, shL_63, shL_65, shL_66, shL_67, shL_68, shL_69, shL_70]; first | done | omega)) only [q1_0, q1_1, q1_2, q1_5, q1_6, q1_7, q1_10, q1_11, q1_13, q1_16, q1_17, q1_20, q1_21, q1_22, q1_23, q1_24, q1_25, q1_26, q1_27, q1_30, q1_31, q1_32, q1_34, q1_37, q1_38, shC_0, shC_1, shC_2, shC_3, shC_4, shC_5, shC_6, shC_7, shC_8, shC_9, shC_10, shC_11, shC_12, shC_13, shC_14, shC_29, shC_58, shC_59, shC_60, shC_61, shC_62, shC_63, shC_64, shC_65, shC_66, shC_67, shC_68, shC_69, shC_70, shL_2, shL_3, shL_4, shL_5, shL_6, shL_8, shL_10, shL_12, shL_14, shL_29, shL_58, shL_60, shL_62, shL_63, shL_65, shL_66, shL_67, shL_68, shL_69, shL_70, shR_0_0, shR_0_1, shR_0_2, shR_0_3, shR_0_4, shR_0_5, shR_0_6, shR_0_7, shR_1_3, shR_1_4, shR_1_5, shR_1_6, shR_1_7, shR_1_8, shR_1_9, shR_1_10, shR_1_11, shR_7_2, shR_9_2, shR_11_2, shR_13_0, shR_59_0, shR_61_0, shR_61_1, shR_61_2, shR_64_0, shR_64_1, shR_64_2, shR_64_3, shR_64_4, shR_64_5, hc', hc5, e4, el, hp', pushR_I, pushR_L, pushR_R, pushR_V, InR_gg, InR_ga, InR_wr, InL_gl, InR_b, b01, b01_0, if_true, if_false, not_true_eq_false, not_false_eq_true, and_true, true_and, and_self, Sum.inl.injEq, one0, Bool.false_eq_true]
      refine ⟨SAM_refl _ _, ?_⟩
      rw [dfs_prune hM (m + 1) kn h (fun l hl => (hk l hl).2) hh0 hh9 hp]
    · have hp' : 20 ≤ h + ((m + 1 : Nat) : Int) * M := by omega
      simp (disch := first | with_reducible assumption | omega | exact ga_in _ _ _ | exact gg_in _ _ _ | (unfold InR; omega) | (unfold InL; omega) | (simp only [shC_0, shC_1, shC_2, shC_3, shC_4, shC_5, shC_6, shC_7, shC_8, shC_9, shC_10, shC_11, shC_12, shC_13, shC_14, shC_29, shC_58, shC_59, shC_60, shC_61, shC_62, shC_63, shC_64, shC_65, shC_66, shC_67, shC_68, shC_69, shC_70, shL_2, shL_3, shL_4, shL_5, shL_6, shL_8, shL_10, shL_12, shL_14, shL_29, shL_58, shL_60, shL_62, shL_63, shL_65, shL_66, shL_67, shL_68, shL_69, shL_70]; first | done | omega)) only [q1_0, q1_1, q1_2, q1_5, q1_6, q1_7, q1_10, q1_11, q1_13, q1_16, q1_17, q1_20, q1_21, q1_22, q1_23, q1_24, q1_25, q1_26, q1_27, q1_30, q1_31, q1_32, q1_34, q1_37, q1_38, q1_39, q1_40, shC_0, shC_1, shC_2, shC_3, shC_4, shC_5, shC_6, shC_7, shC_8, shC_9, shC_10, shC_11, shC_12, shC_13, shC_14, shC_29, shC_58, shC_59, shC_60, shC_61, shC_62, shC_63, shC_64, shC_65, shC_66, shC_67, shC_68, shC_69, shC_70, shL_2, shL_3, shL_4, shL_5, shL_6, shL_8, shL_10, shL_12, shL_14, shL_29, shL_58, shL_60, shL_62, shL_63, shL_65, shL_66, shL_67, shL_68, shL_69, shL_70, shR_0_0, shR_0_1, shR_0_2, shR_0_3, shR_0_4, shR_0_5, shR_0_6, shR_0_7, shR_1_3, shR_1_4, shR_1_5, shR_1_6, shR_1_7, shR_1_8, shR_1_9, shR_1_10, shR_1_11, shR_7_2, shR_9_2, shR_11_2, shR_13_0, shR_59_0, shR_61_0, shR_61_1, shR_61_2, shR_64_0, shR_64_1, shR_64_2, shR_64_3, shR_64_4, shR_64_5, hc', hc5, e4, el, hp', pushR_I, pushR_L, pushR_R, pushR_V, InR_gg, InR_ga, InR_wr, InL_gl, InR_b, b01, b01_0, if_true, if_false, not_true_eq_false, not_false_eq_true, and_true, true_and, and_self, Sum.inl.injEq, one0, Bool.false_eq_true]
      refine l1 (d := d + m + 1) (m := m) (c := c) (len := len) (n := n) (h := h) (o := o) (kn := kn) (τ := τ) hO ho hn (by omega) hlen hs e3 (fun l hl => ⟨(hk l hl).1, by have := hk0 l hl; have := (hk l hl).2; omega, (hk l hl).2.2⟩) ⟨by omega, hh9⟩ (fun l χ hl hx => ?_) n 0 τ _ _ _ (by omega) (SAM_refl _ _) (fun r χ' hp => hp)
      have b := hM l (kn l) h hl (hk l hl).2.1 (hk l hl).2.2 hh0
      have b2 : heI h (tkR σ o l (kn l) h) = heI h (tkI (ga σ 5 o) (ltT σ 1 (l : Int) (kn l)) h) := rfl
      have b3 : h ≤ heI h (tkR σ o l (kn l) h) ∧ heI h (tkR σ o l (kn l) h) ≤ 99 := by unfold heI; split <;> omega
      have hs2 : SAM S6 σ (ua (ua χ 62 (c : Int) (l : Int)) 63 (l : Int) (kn1 (kn l))) := SAM_ua (SAM_ua (SAM_trans hs (SAM_mono hx (fun a b q => Or.inr (Or.inl q.1)))) (Or.inr (Or.inl rfl))) (Or.inr (Or.inr rfl))
      have := ih (c + 1) (ua (ua χ 62 (c : Int) (l : Int)) 63 (l : Int) (kn1 (kn l))) (upk kn l) (heI h (tkR σ o l (kn l) h)) (by omega) hs2
        (by rw [gg_ua_ne _ _ _ _ _ _ (by omega), gg_ua_ne _ _ _ _ _ _ (by omega), hx.1 _ _ (fun q => by have := q.1; omega), e3])
        (by rw [gg_ua_ne _ _ _ _ _ _ (by omega), gg_ua_ne _ _ _ _ _ _ (by omega), hx.1 _ _ (fun q => by have := q.1; omega), e4])
        (fun j hj => by
          obtain ⟨j1, j2, j3⟩ := hk j hj
          obtain ⟨i1, i2, i3⟩ := hk l hl
          have i4 := hk0 l hl
          unfold upk
          by_cases e : j = l
          · subst e
            have b4 := kn1_b (k := kn j) (by omega)
            rw [ga_ua_eq, if_pos rfl, wr_id ⟨by omega, by omega⟩]
            refine ⟨rfl, ?_, b4.2⟩
            unfold kn1
            split <;> omega
          · rw [ga_ua_ni _ _ _ _ _ (by omega) (by omega) (by omega), if_neg e, ga_ua_ne _ _ _ _ _ _ (by omega), ga_nat, hx.1 _ _ (fun q => by have := q.1; omega), ← ga_nat]
            exact ⟨j1, j2, j3⟩)
        (by omega) b3.2
      rw [← b2]
      exact this
theorem mxF_b {c : Nat → Int} {B : Int} : ∀ (n i : Nat) (a : Int), a ≤ B → (∀ j, i ≤ j → j < i + n → c j ≤ B) → a ≤ mxF c i n a ∧ mxF c i n a ≤ B ∧ ∀ j, i ≤ j → j < i + n → c j ≤ mxF c i n a := by
  intro n
  induction n with
  | zero => intro i a h _; exact ⟨Int.le_refl _, h, fun j h1 h2 => by omega⟩
  | succ n ih =>
    intro i a h hc
    have h1 := hc i (Nat.le_refl _) (by omega)
    have key : a ≤ (if a < c i then c i else a) ∧ c i ≤ (if a < c i then c i else a) ∧ (if a < c i then c i else a) ≤ B := by split <;> omega
    obtain ⟨x1, x2, x3⟩ := ih (i + 1) (if a < c i then c i else a) key.2.2 (fun j h2 h3 => hc j (by omega) (by omega))
    refine ⟨Int.le_trans key.1 x1, x2, fun j h2 h3 => ?_⟩
    by_cases e : j = i
    · subst e
      exact Int.le_trans key.2.1 x1
    · exact x3 j (by omega) (by omega)
/-- the first of the lengths i .. at which f tells a row -/
def fewA (f : Nat → Option (List Nat)) : Nat → Nat → Option (List Nat)
  | 0, _ => none
  | k + 1, i => match f i with
    | some L => some L
    | none => fewA f k (i + 1)
def fewR (D : Option (List Nat)) (r : AV) (τ : SG) : Prop := match D with
  | none => r = .inl (-1)
  | some L => r = .inl (L.length : Int) ∧ L.length ≤ 5 ∧ ∀ j, j < L.length → ga τ 62 (j : Int) = (L.getD j 0 : Int)
def S614 (a b : Nat) : Prop := a = 61 ∧ b = 4
theorem l0a {n : Nat} {o : Int} {τ : SG} (hO : TOK τ 1) (ho : 0 ≤ o ∧ o < gg τ 1 1) (hn : gg τ 1 0 = (n : Int)) : ∀ (k l : Nat) (a : Int) (χ : SG), l + k = n → 0 ≤ a ∧ a ≤ 5000 → SAM S614 τ χ → gg χ 61 4 = a →
    (∀ χ', SAM S614 τ χ' → gg χ' 61 4 = mxF (fun l => tkT τ 1 o (l : Int)) l k a → Wp none (d + 8) 0 73 [.inr (.inr (.inl 61)), .inl o, .inl (n : Int)] [] χ' Q) →
    Wp none (d + 8) 0 36 [.inr (.inr (.inl 61)), .inl o, .inl (l : Int)] [] χ Q := by
  have o1 := (TOK1 hO).1
  intro k
  induction k with
  | zero =>
    intro l a χ hl ha hx h4 hq
    have e : l = n := by omega
    subst e
    have g0 : gg χ 1 0 = (l : Int) := by rw [hx.1 _ _ (fun q => by have := q.1; omega), hn]
    simp (disch := first | with_reducible assumption | omega | exact ga_in _ _ _ | exact gg_in _ _ _ | (unfold InR; omega) | (unfold InL; omega) | (simp only [shC_0, shC_1, shC_2, shC_3, shC_4, shC_5, shC_6, shC_7, shC_8, shC_9, shC_10, shC_11, shC_12, shC_13, shC_14, shC_29, shC_58, shC_59, shC_60, shC_61, shC_62, shC_63, shC_64, shC_65, shC_66, shC_67, shC_68, shC_69, shC_70, shL_2, shL_3, shL_4, shL_5, shL_6, shL_8, shL_10, shL_12, shL_14, shL_29, shL_58, shL_60, shL_62, shL_63, shL_65, shL_66, shL_67, shL_68, shL_69, shL_70]; first | done | omega)) only [q0_36, q0_37, q0_38, q0_41, q0_44, shC_0, shC_1, shC_2, shC_3, shC_4, shC_5, shC_6, shC_7, shC_8, shC_9, shC_10, shC_11, shC_12, shC_13, shC_14, shC_29, shC_58, shC_59, shC_60, shC_61, shC_62, shC_63, shC_64, shC_65, shC_66, shC_67, shC_68, shC_69, shC_70, shL_2, shL_3, shL_4, shL_5, shL_6, shL_8, shL_10, shL_12, shL_14, shL_29, shL_58, shL_60, shL_62, shL_63, shL_65, shL_66, shL_67, shL_68, shL_69, shL_70, shR_0_0, shR_0_1, shR_0_2, shR_0_3, shR_0_4, shR_0_5, shR_0_6, shR_0_7, shR_1_3, shR_1_4, shR_1_5, shR_1_6, shR_1_7, shR_1_8, shR_1_9, shR_1_10, shR_1_11, shR_7_2, shR_9_2, shR_11_2, shR_13_0, shR_59_0, shR_61_0, shR_61_1, shR_61_2, shR_64_0, shR_64_1, shR_64_2, shR_64_3, shR_64_4, shR_64_5, g0, Int.le_refl, pushR_I, pushR_L, pushR_R, pushR_V, InR_gg, InR_ga, InR_wr, InL_gl, InR_b, b01, b01_0, if_true, if_false, not_true_eq_false, not_false_eq_true, and_true, true_and, and_self, Sum.inl.injEq, one0, Bool.false_eq_true]
    exact hq χ hx h4
  | succ k ih =>
    intro l a χ hl ha hx h4 hq
    have tsame : ∀ a b, 1 ≤ a → a ≤ 1 + 5 → gg χ a b = gg τ a b := fun a b h1 h2 => hx.1 _ _ (fun q => by have := q.1; omega)
    have hT : TOK χ 1 := TOK_same hO tsame
    have g0 : gg χ 1 0 = (n : Int) := by rw [tsame 1 0 (by omega) (by omega), hn]
    have g1 : gg χ 1 1 = gg τ 1 1 := tsame 1 1 (by omega) (by omega)
    have eg : ¬ (n : Int) ≤ (l : Int) := by omega
    have et : tkT χ 1 o (l : Int) = tkT τ 1 o (l : Int) := tkT_same tsame
    have eb := tkT_b hO (l := (l : Int)) (o := o) (by omega) ho
    simp (disch := first | with_reducible assumption | omega | exact ga_in _ _ _ | exact gg_in _ _ _ | (unfold InR; omega) | (unfold InL; omega) | (simp only [shC_0, shC_1, shC_2, shC_3, shC_4, shC_5, shC_6, shC_7, shC_8, shC_9, shC_10, shC_11, shC_12, shC_13, shC_14, shC_29, shC_58, shC_59, shC_60, shC_61, shC_62, shC_63, shC_64, shC_65, shC_66, shC_67, shC_68, shC_69, shC_70, shL_2, shL_3, shL_4, shL_5, shL_6, shL_8, shL_10, shL_12, shL_14, shL_29, shL_58, shL_60, shL_62, shL_63, shL_65, shL_66, shL_67, shL_68, shL_69, shL_70]; first | done | omega)) only [q0_36, q0_37, q0_38, q0_41, q0_44, q0_47, q0_48, q0_49, q0_52, q0_53, q0_56, q0_57, q0_58, q0_61, q0_64, q0_67, shC_0, shC_1, shC_2, shC_3, shC_4, shC_5, shC_6, shC_7, shC_8, shC_9, shC_10, shC_11, shC_12, shC_13, shC_14, shC_29, shC_58, shC_59, shC_60, shC_61, shC_62, shC_63, shC_64, shC_65, shC_66, shC_67, shC_68, shC_69, shC_70, shL_2, shL_3, shL_4, shL_5, shL_6, shL_8, shL_10, shL_12, shL_14, shL_29, shL_58, shL_60, shL_62, shL_63, shL_65, shL_66, shL_67, shL_68, shL_69, shL_70, shR_0_0, shR_0_1, shR_0_2, shR_0_3, shR_0_4, shR_0_5, shR_0_6, shR_0_7, shR_1_3, shR_1_4, shR_1_5, shR_1_6, shR_1_7, shR_1_8, shR_1_9, shR_1_10, shR_1_11, shR_7_2, shR_9_2, shR_11_2, shR_13_0, shR_59_0, shR_61_0, shR_61_1, shR_61_2, shR_64_0, shR_64_1, shR_64_2, shR_64_3, shR_64_4, shR_64_5, g0, h4, eg, k39 (d := d + 6) (σ := χ) T1 hT, et, k203, pushR_I, pushR_L, pushR_R, pushR_V, InR_gg, InR_ga, InR_wr, InL_gl, InR_b, b01, b01_0, if_true, if_false, not_true_eq_false, not_false_eq_true, and_true, true_and, and_self, Sum.inl.injEq, one0, Bool.false_eq_true]
    rw [q0_70]
    have kb : 0 ≤ (if a < tkT τ 1 o (l : Int) then tkT τ 1 o (l : Int) else a) ∧ (if a < tkT τ 1 o (l : Int) then tkT τ 1 o (l : Int) else a) ≤ 5000 := by split <;> omega
    exact ih (l + 1) _ _ (by omega) kb (SAM_ug hx ⟨rfl, rfl⟩) (by rw [gg_ug_eq, wr_id ⟨by omega, by omega⟩]) hq
theorem l0b {n : Nat} {o M : Int} (hO : TOK σ 1) (ho : 0 ≤ o ∧ o < gg σ 1 1) (hn : gg σ 1 0 = (n : Int)) (hM0 : 0 ≤ M ∧ M ≤ 5000)
    (hM : ∀ l k h, l < n → ga σ 4 (l : Int) ≤ k → k ≤ 9 → ga σ 6 o ≤ h → 0 ≤ tkR σ o l k h ∧ tkR σ o l k h ≤ M) :
    ∀ (k i : Nat) (τ : SG), i + k = 6 → SAM S6 σ τ → gg τ 61 3 = ga σ 5 o → gg τ 61 4 = M → (∀ l, l < n → ga τ 63 (l : Int) = ga σ 4 (l : Int)) →
    (∀ r χ, SAM S6 σ χ → fewR (fewA (fun m => dfsF n (tkR σ o) m (fun l => ga σ 4 (l : Int)) (ga σ 6 o)) k i) r χ → Q r χ) →
    Wp none (d + 8) 0 75 [.inr (.inr (.inl 61)), .inl o, .inl (i : Int)] [] τ Q := by
  have hO' := hO
  obtain ⟨o1, o2, o3, o4, o5⟩ := TOK1 hO
  obtain ⟨c1, c2⟩ := o5 o ho.1 ho.2
  intro k
  induction k with
  | zero =>
    intro i τ hi hs e3 e4 hk hq
    have eg : (5 : Int) < (i : Int) := by omega
    simp (disch := first | with_reducible assumption | omega | exact ga_in _ _ _ | exact gg_in _ _ _ | (unfold InR; omega) | (unfold InL; omega) | (simp only [shC_0, shC_1, shC_2, shC_3, shC_4, shC_5, shC_6, shC_7, shC_8, shC_9, shC_10, shC_11, shC_12, shC_13, shC_14, shC_29, shC_58, shC_59, shC_60, shC_61, shC_62, shC_63, shC_64, shC_65, shC_66, shC_67, shC_68, shC_69, shC_70, shL_2, shL_3, shL_4, shL_5, shL_6, shL_8, shL_10, shL_12, shL_14, shL_29, shL_58, shL_60, shL_62, shL_63, shL_65, shL_66, shL_67, shL_68, shL_69, shL_70]; first | done | omega)) only [q0_75, q0_76, q0_77, q0_108, q0_109, eg, pushR_I, pushR_L, pushR_R, pushR_V, InR_gg, InR_ga, InR_wr, InL_gl, InR_b, b01, b01_0, if_true, if_false, not_true_eq_false, not_false_eq_true, and_true, true_and, and_self, Sum.inl.injEq, one0, Bool.false_eq_true]
    exact hq _ _ hs rfl
  | succ k ih =>
    intro i τ hi hs e3 e4 hk hq
    have eg : ¬ (5 : Int) < (i : Int) := by omega
    have e6 : ga τ 6 o = ga σ 6 o := hs.1 _ _ (fun q => by unfold S6 at q; omega)
    have hc := m1 (d := d + (5 - i)) (len := i) (M := M) (h0 := ga σ 6 o) (kn0 := fun l => ga σ 4 (l : Int)) hO' ho hn (by omega) c2.1 hM0 (fun l hl => (o4 (l : Int) (by omega) (by omega)).2.2.1) hM i 0 τ (fun l => ga σ 4 (l : Int)) (ga σ 6 o) (by omega) hs e3 e4 (fun l hl => ⟨hk l hl, Int.le_refl _, (o4 (l : Int) (by omega) (by omega)).2.2.2⟩) (Int.le_refl _) c2.2
    rw [show d + (5 - i) + i + 3 = d + 8 by omega] at hc
    simp (disch := first | with_reducible assumption | omega | exact ga_in _ _ _ | exact gg_in _ _ _ | (unfold InR; omega) | (unfold InL; omega) | (simp only [shC_0, shC_1, shC_2, shC_3, shC_4, shC_5, shC_6, shC_7, shC_8, shC_9, shC_10, shC_11, shC_12, shC_13, shC_14, shC_29, shC_58, shC_59, shC_60, shC_61, shC_62, shC_63, shC_64, shC_65, shC_66, shC_67, shC_68, shC_69, shC_70, shL_2, shL_3, shL_4, shL_5, shL_6, shL_8, shL_10, shL_12, shL_14, shL_29, shL_58, shL_60, shL_62, shL_63, shL_65, shL_66, shL_67, shL_68, shL_69, shL_70]; first | done | omega)) only [q0_75, q0_76, q0_77, q0_80, q0_81, q0_82, q0_83, q0_84, q0_87, q0_90, q0_91, q0_94, shC_0, shC_1, shC_2, shC_3, shC_4, shC_5, shC_6, shC_7, shC_8, shC_9, shC_10, shC_11, shC_12, shC_13, shC_14, shC_29, shC_58, shC_59, shC_60, shC_61, shC_62, shC_63, shC_64, shC_65, shC_66, shC_67, shC_68, shC_69, shC_70, shL_2, shL_3, shL_4, shL_5, shL_6, shL_8, shL_10, shL_12, shL_14, shL_29, shL_58, shL_60, shL_62, shL_63, shL_65, shL_66, shL_67, shL_68, shL_69, shL_70, shR_0_0, shR_0_1, shR_0_2, shR_0_3, shR_0_4, shR_0_5, shR_0_6, shR_0_7, shR_1_3, shR_1_4, shR_1_5, shR_1_6, shR_1_7, shR_1_8, shR_1_9, shR_1_10, shR_1_11, shR_7_2, shR_9_2, shR_11_2, shR_13_0, shR_59_0, shR_61_0, shR_61_1, shR_61_2, shR_64_0, shR_64_1, shR_64_2, shR_64_3, shR_64_4, shR_64_5, e6, eg, k89, pushR_I, pushR_L, pushR_R, pushR_V, InR_gg, InR_ga, InR_wr, InL_gl, InR_b, b01, b01_0, if_true, if_false, not_true_eq_false, not_false_eq_true, and_true, true_and, and_self, Sum.inl.injEq, one0, Bool.false_eq_true]
    refine CalK_E hc (fun r υ hP => ?_)
    obtain ⟨hS, hD⟩ := hP
    have hs2 : SAM S6 σ υ := SAM_trans hs (SAM_mono hS (fun a b q => Or.inr (Or.inl q.1)))
    cases hD1 : dfsF n (tkR σ o) i (fun l => ga σ 4 (l : Int)) (ga σ 6 o) with
    | none =>
      rw [hD1] at hD
      obtain rfl := hD
      simp (disch := first | with_reducible assumption | omega | exact ga_in _ _ _ | exact gg_in _ _ _ | (unfold InR; omega) | (unfold InL; omega) | (simp only [shC_0, shC_1, shC_2, shC_3, shC_4, shC_5, shC_6, shC_7, shC_8, shC_9, shC_10, shC_11, shC_12, shC_13, shC_14, shC_29, shC_58, shC_59, shC_60, shC_61, shC_62, shC_63, shC_64, shC_65, shC_66, shC_67, shC_68, shC_69, shC_70, shL_2, shL_3, shL_4, shL_5, shL_6, shL_8, shL_10, shL_12, shL_14, shL_29, shL_58, shL_60, shL_62, shL_63, shL_65, shL_66, shL_67, shL_68, shL_69, shL_70]; first | done | omega)) only [q0_97, q0_100, q0_101, q0_102, pushR_I, pushR_L, pushR_R, pushR_V, InR_gg, InR_ga, InR_wr, InL_gl, InR_b, b01, b01_0, if_true, if_false, not_true_eq_false, not_false_eq_true, and_true, true_and, and_self, Sum.inl.injEq, one0, Bool.false_eq_true]
      rw [q0_105]
      refine ih (i + 1) υ (by omega) hs2 (by rw [hS.1 _ _ (fun q => by have := q.1; omega), e3]) (by rw [hS.1 _ _ (fun q => by have := q.1; omega), e4]) (fun l hl => by rw [ga_nat, hS.1 _ _ (fun q => by have := q.1; omega), ← ga_nat, hk l hl]) (fun r χ h1 h2 => hq r χ h1 ?_)
      simp only [fewA, hD1]
      exact h2
    | some L =>
      rw [hD1] at hD
      obtain ⟨rfl, hL, hv⟩ := hD
      simp (disch := first | with_reducible assumption | omega | exact ga_in _ _ _ | exact gg_in _ _ _ | (unfold InR; omega) | (unfold InL; omega) | (simp only [shC_0, shC_1, shC_2, shC_3, shC_4, shC_5, shC_6, shC_7, shC_8, shC_9, shC_10, shC_11, shC_12, shC_13, shC_14, shC_29, shC_58, shC_59, shC_60, shC_61, shC_62, shC_63, shC_64, shC_65, shC_66, shC_67, shC_68, shC_69, shC_70, shL_2, shL_3, shL_4, shL_5, shL_6, shL_8, shL_10, shL_12, shL_14, shL_29, shL_58, shL_60, shL_62, shL_63, shL_65, shL_66, shL_67, shL_68, shL_69, shL_70]; first | done | omega)) only [q0_97, q0_100, q0_101, q0_102, pushR_I, pushR_L, pushR_R, pushR_V, InR_gg, InR_ga, InR_wr, InL_gl, InR_b, b01, b01_0, if_true, if_false, not_true_eq_false, not_false_eq_true, and_true, true_and, and_self, Sum.inl.injEq, one0, Bool.false_eq_true]
      refine hq _ _ hs2 ?_
      simp only [fewA, hD1, fewR]
      refine ⟨by rw [hL], by omega, fun j hj => ?_⟩
      have := hv j (by omega)
      rw [Nat.zero_add] at this
      exact this
theorem m0 {n : Nat} {o : Int} (hO : TOK σ 1) (ho : 0 ≤ o ∧ o < gg σ 1 1) (hn : gg σ 1 0 = (n : Int)) : CalE (d + 9) 0 [.inr (.inr (.inl 61)), .inl o] σ (fun r τ => SAM S6 σ τ ∧ fewR (fewA (fun m => dfsF n (tkR σ o) m (fun l => ga σ 4 (l : Int)) (ga σ 6 o)) 6 0) r τ) := by
  have hO' := hO
  obtain ⟨o1, o2, o3, o4, o5⟩ := TOK1 hO
  obtain ⟨c1, c2⟩ := o5 o ho.1 ho.2
  have b0 : ∀ l : Nat, l < n → 0 ≤ tkT σ 1 o (l : Int) ∧ tkT σ 1 o (l : Int) ≤ 4013 := fun l hl => tkT_b hO' (by omega) ho
  obtain ⟨x1, x2, x3⟩ := mxF_b (c := fun l => tkT σ 1 o (l : Int)) (B := 5000) n 0 0 (by omega) (fun j _ h2 => by have := b0 j (by omega); omega)
  refine Cal_ex (ls := [.inr (.inr (.inl 61)), .inl o, aU]) rfl mna_0 mml_0 mhl_0 rfl rfl ?_
  simp (disch := first | with_reducible assumption | omega | exact ga_in _ _ _ | exact gg_in _ _ _ | (unfold InR; omega) | (unfold InL; omega) | (simp only [shC_0, shC_1, shC_2, shC_3, shC_4, shC_5, shC_6, shC_7, shC_8, shC_9, shC_10, shC_11, shC_12, shC_13, shC_14, shC_29, shC_58, shC_59, shC_60, shC_61, shC_62, shC_63, shC_64, shC_65, shC_66, shC_67, shC_68, shC_69, shC_70, shL_2, shL_3, shL_4, shL_5, shL_6, shL_8, shL_10, shL_12, shL_14, shL_29, shL_58, shL_60, shL_62, shL_63, shL_65, shL_66, shL_67, shL_68, shL_69, shL_70]; first | done | omega)) only [q0_0, q0_1, q0_2, q0_5, q0_8, q0_9, q0_12, q0_15, q0_16, q0_19, q0_22, q0_23, q0_26, q0_29, q0_30, q0_31, q0_34, q0_35, shC_0, shC_1, shC_2, shC_3, shC_4, shC_5, shC_6, shC_7, shC_8, shC_9, shC_10, shC_11, shC_12, shC_13, shC_14, shC_29, shC_58, shC_59, shC_60, shC_61, shC_62, shC_63, shC_64, shC_65, shC_66, shC_67, shC_68, shC_69, shC_70, shL_2, shL_3, shL_4, shL_5, shL_6, shL_8, shL_10, shL_12, shL_14, shL_29, shL_58, shL_60, shL_62, shL_63, shL_65, shL_66, shL_67, shL_68, shL_69, shL_70, shR_0_0, shR_0_1, shR_0_2, shR_0_3, shR_0_4, shR_0_5, shR_0_6, shR_0_7, shR_1_3, shR_1_4, shR_1_5, shR_1_6, shR_1_7, shR_1_8, shR_1_9, shR_1_10, shR_1_11, shR_7_2, shR_9_2, shR_11_2, shR_13_0, shR_59_0, shR_61_0, shR_61_1, shR_61_2, shR_64_0, shR_64_1, shR_64_2, shR_64_3, shR_64_4, shR_64_5, k89, k91 (d := d + 7) (s := 4) (t := 63) (N := 7) shC_4 shC_63 (by omega) shL_4 shL_63, gg_ug_eq, gg_ug_ne, gg_ua_ne, ga_ug_ne, ga_ua_ne, ga_ua_eq, ga_ua_ni, wr_id, pushR_I, pushR_L, pushR_R, pushR_V, InR_gg, InR_ga, InR_wr, InL_gl, InR_b, b01, b01_0, if_true, if_false, not_true_eq_false, not_false_eq_true, and_true, true_and, and_self, Sum.inl.injEq, one0, Bool.false_eq_true]
  have hs1 : SAM S6 σ (ug (mR (ug σ 61 3 (ga σ 5 o)) 63 0 7 (fun j => ga σ 4 (j : Int))) 61 4 0) := SAM_ug (SAM_mR (SAM_ug (SAM_refl _ _) (Or.inl rfl)) (fun x _ _ => Or.inr (Or.inr rfl))) (Or.inl rfl)
  generalize hτ : (ug (mR (ug σ 61 3 (ga σ 5 o)) 63 0 7 (fun j => ga σ 4 (j : Int))) 61 4 0) = τ
  rw [hτ] at hs1
  have tsame : ∀ a b, 1 ≤ a → a ≤ 1 + 5 → gg τ a b = gg σ a b := fun a b h1 h2 => hs1.1 _ _ (fun q => by unfold S6 at q; omega)
  have hT : TOK τ 1 := TOK_same hO' tsame
  have g0 : gg τ 1 0 = (n : Int) := by rw [tsame 1 0 (by omega) (by omega), hn]
  have e3 : gg τ 61 3 = ga σ 5 o := by rw [← hτ, gg_ug_ne _ _ _ _ _ _ (by omega), gg_mR, if_neg (by omega), gg_ug_eq, wr_id (ga_in _ _ _)]
  have e4 : gg τ 61 4 = 0 := by rw [← hτ, gg_ug_eq]; rfl
  have ek : ∀ l : Nat, l < n → ga τ 63 (l : Int) = ga σ 4 (l : Int) := fun l hl => by
    rw [← hτ, ga_ug_ne _ _ _ _ _ _ (by omega), ga_mR _ _ _ _ _ _ (by omega), if_pos rfl, if_pos ⟨by omega, by omega⟩, wr_id (ga_in _ _ _), Int.toNat_natCast, Nat.sub_zero]
  refine l0a (d := d) (n := n) (o := o) (τ := τ) hT (by rw [tsame 1 1 (by omega) (by omega)]; exact ho) g0 n 0 0 τ (by omega) ⟨by omega, by omega⟩ (SAM_refl _ _) e4 (fun χ hx hχ => ?_)
  rw [mxF_congr n 0 0 (fun j _ h2 => tkT_same (τ := τ) (σ := σ) (l := (j : Int)) (o := o) tsame)] at hχ
  simp (disch := first | with_reducible assumption | omega | exact ga_in _ _ _ | exact gg_in _ _ _ | (unfold InR; omega) | (unfold InL; omega) | (simp only [shC_0, shC_1, shC_2, shC_3, shC_4, shC_5, shC_6, shC_7, shC_8, shC_9, shC_10, shC_11, shC_12, shC_13, shC_14, shC_29, shC_58, shC_59, shC_60, shC_61, shC_62, shC_63, shC_64, shC_65, shC_66, shC_67, shC_68, shC_69, shC_70, shL_2, shL_3, shL_4, shL_5, shL_6, shL_8, shL_10, shL_12, shL_14, shL_29, shL_58, shL_60, shL_62, shL_63, shL_65, shL_66, shL_67, shL_68, shL_69, shL_70]; first | done | omega)) only [q0_73, q0_74, pushR_I, pushR_L, pushR_R, pushR_V, InR_gg, InR_ga, InR_wr, InL_gl, InR_b, b01, b01_0, if_true, if_false, not_true_eq_false, not_false_eq_true, and_true, true_and, and_self, Sum.inl.injEq, one0, Bool.false_eq_true]
  refine l0b (d := d) (n := n) (o := o) hO' ho hn ⟨x1, x2⟩ (fun l k h hl h1 h2 h3 => ?_) 6 0 χ (by omega) (SAM_trans hs1 (SAM_mono hx (fun a b q => Or.inl q.1))) (by rw [hx.1 _ _ (fun q => by have := q.2; omega), e3]) hχ (fun l hl => by rw [ga_nat, hx.1 _ _ (fun q => by have := q.1; omega), ← ga_nat, ek l hl]) (fun r χ2 h1 h2 => ⟨h1, h2⟩)
  obtain ⟨b1, b2, b3⟩ := o4 (l : Int) (by omega) (by omega)
  have y0 : 0 ≤ ltT σ 1 (l : Int) k ∧ ltT σ 1 (l : Int) k ≤ 4008 := ltI_b (u := ga σ 3 (l : Int)) (by omega) (by omega)
  have y1 : ltT σ 1 (l : Int) k ≤ ltT σ 1 (l : Int) (ga σ 4 (l : Int)) := ltI_mo (u := ga σ 3 (l : Int)) (by omega) b3.1 h1 (by omega)
  exact ⟨tkI_nn y0.1 (by omega), Int.le_trans (tkI_mo y0.1 y1 c2.1 h3) (x3 l (by omega) (by omega))⟩
end FEWC
