-- the reference: trues
def rH (G : Int → Int) (o h : Int) : Int → Int := fun i => if i = 1 + o then h else G i
section MTRU
variable {d : Nat} {σ : SG} {S : Nat → Int → Int} {K : AV → SG → Prop} {Q : AV → SG → Prop} {g : Int → Int} {m : Nat}
theorem GOK_rH {G : Int → Int} (hG : GOK G) {o h : Int} (ho : 0 ≤ o ∧ o < G 28) (hh : 0 ≤ h ∧ h ≤ 99) : GOK (rH G o h) := by
  have hG' := hG
  obtain ⟨g1, g2, g3, g4, g5, -⟩ := hG
  have dn : ∀ i : Int, ¬ i = 1 + o → rH G o h i = G i := fun i q => by unfold rH; rw [if_neg q]
  refine GOK_rest hG' (fun i a b => dn i (by omega)) (dn _ (by omega)) (dn _ (by omega)) (by rw [dn _ (by omega)]; exact g3) (fun j a b => ?_) (fun j a b => ?_)
  · rw [dn _ (by omega), dn _ (by omega), dn _ (by omega)]
    exact g4 j a b
  · obtain ⟨z1, z2⟩ := g5 j a b
    rw [dn (29 + j) (by omega)]
    refine ⟨z1, ?_⟩
    by_cases e : j = o
    · subst e
      unfold rH
      rw [if_pos rfl]
      exact hh
    · rw [dn _ (by omega)]
      exact z2
theorem RW_rH {G : Int → Int} {τ : SG} {o h h2 : Int} (hr : RW τ 74 34 (rH G o h)) (ho : 0 ≤ o ∧ o ≤ 4) (h2r : InR h2) : RW (ua τ 74 (1 + o) h2) 74 34 (rH G o h2) := by
  intro i a b
  unfold rH
  by_cases c : i = 1 + o
  · subst c
    rw [ga_ua_eq, if_pos rfl, wr_id h2r]
  · rw [ga_ua_ni _ _ _ _ _ (by omega) a c, if_neg c]
    have := hr i a b
    unfold rH at this
    rw [if_neg c] at this
    exact this
theorem tkI_z {kd h : Int} (hh : 0 ≤ h) : tkI kd 0 h = 0 := by
  unfold tkI clI
  repeat' split
  all_goals omega
theorem heI_z {h : Int} (hh : h ≤ 99) : heI h 0 = h := by
  unfold heI
  split <;> omega
theorem hb_bits {L x i : Nat} (hL : L < 128) (hx : x < 128) (hi : i < 7) : hasb ((L - (L &&& x) : Nat) : Int) i = (bitB L i && !bitB x i) := by
  have h := d128 ⟨x, hx⟩ ⟨L, hL⟩
  simp only at h
  rw [hasb_nat]
  have key : ∀ (p : Nat → Bool) (n s : Nat), allF p s n = true → ∀ j, s ≤ j → j < s + n → p j = true := by
    intro p n
    induction n with
    | zero => intro s _ j h1 h2; omega
    | succ n ih =>
      intro s hs j h1 h2
      simp only [allF, Bool.and_eq_true] at hs
      by_cases e : j = s
      · subst e; exact hs.1
      · exact ih (s + 1) hs.2 j (by omega) (by omega)
  have hk := key _ 7 0 h i (by omega) (by omega)
  have hk2 := eq_of_beq hk
  exact hk2
theorem chF_cut {x L : Int} {c : Int} : ∀ (n k i : Nat) (a : Int), (∀ j, i + n ≤ j → hasb L j = false) → chF x L c i (n + k) a = chF x L c i n a := by
  intro n
  induction n with
  | zero =>
    intro k
    induction k with
    | zero => intro i a _; rfl
    | succ k ih =>
      intro i a h
      rw [show 0 + (k + 1) = (0 + k) + 1 by omega]
      simp only [chF]
      rw [h i (by omega)]
      simp only [Bool.false_eq_true, if_false]
      exact ih (i + 1) a (fun j hj => h j (by omega))
  | succ n ih =>
    intro k i a h
    rw [show n + 1 + k = (n + k) + 1 by omega]
    simp only [chF]
    exact ih k (i + 1) _ (fun j hj => h j (by omega))
theorem bit_hi {L n j : Nat} (hL : L < 2 ^ n) (h : n ≤ j) : bitB L j = false := by
  unfold bitB
  apply decide_eq_false
  have hp : 2 ^ n ≤ 2 ^ j := Nat.pow_le_pow_right (by omega) h
  rw [Nat.div_eq_of_lt (by omega)]
  omega
theorem l193a {L : Nat} (hL : L < 128) {v1 v3 v4 w9 w10 w11 : AV} : ∀ (n i : Nat) (a : Int), i + n = 7 →
    Wp none (d + 19) 193 51 [.inr (.inr (.inl 71)), v1, .inl (L : Int), v3, v4, aU, .inr (.inl a), aU, .inl (i : Int), w9, w10, w11] [] σ Q = Wp none (d + 19) 193 85 [.inr (.inr (.inl 71)), v1, .inl (L : Int), v3, v4, aU, .inr (.inl (a * pN (bitB L) i n)), aU, .inl 7, w9, w10, w11] [] σ Q := by
  have c7 : ((7 : Nat) : Int) = 7 := rfl
  have hL2 : 0 ≤ (L : Int) ∧ (L : Int) < 2147483648 := by omega
  intro n
  induction n with
  | zero =>
    intro i a hi
    have e : i = 7 := by omega
    subst e
    simp (disch := first | with_reducible assumption | omega | exact ga_in _ _ _ | exact gg_in _ _ _ | (unfold InR; omega) | (unfold InL; omega) | (simp only [shC_71, shC_72, shC_73, shC_74, shC_75, shC_76, shC_77, shC_78, shC_79, shL_72, shL_73, shL_74, shL_75, shL_76, shL_77, shL_78, shL_79]; first | done | omega)) only [q193_51, q193_53, q193_55, c7, Int.le_refl, pN, Int.mul_one, pushR_I, pushR_L, pushR_R, pushR_V, InR_gg, InR_ga, InR_wr, InL_gl, InR_b, b01, b01_0, if_true, if_false, not_true_eq_false, not_false_eq_true, and_true, true_and, and_self, Sum.inl.injEq, one0, Bool.false_eq_true]
  | succ n ih =>
    intro i a hi
    have e : ¬ (7 : Int) ≤ (i : Int) := by omega
    have hp : ((L : Int) / 2 ^ (i : Int).toNat % 2 = 1) = (bitB L i = true) := by rw [← hasb_nat]; unfold hasb; rw [Int.toNat_natCast]; simp
    simp only [pN]
    by_cases c : bitB L i = true
    · simp (disch := first | with_reducible assumption | omega | exact ga_in _ _ _ | exact gg_in _ _ _ | (unfold InR; omega) | (unfold InL; omega) | (simp only [shC_71, shC_72, shC_73, shC_74, shC_75, shC_76, shC_77, shC_78, shC_79, shL_72, shL_73, shL_74, shL_75, shL_76, shL_77, shL_78, shL_79]; first | done | omega)) only [q193_51, q193_53, q193_55, q193_58, q193_60, q193_61, q193_63, q193_66, q193_69, q193_72, q193_75, q193_76, q193_77, q193_79, e, k117 hL2, hp, c, pushR_I, pushR_L, pushR_R, pushR_V, InR_gg, InR_ga, InR_wr, InL_gl, InR_b, b01, b01_0, if_true, if_false, not_true_eq_false, not_false_eq_true, and_true, true_and, and_self, Sum.inl.injEq, one0, Bool.false_eq_true]
      rw [q193_82]
      refine (ih (i + 1) (a * 10) (by omega)).trans ?_
      rw [Int.mul_assoc]
    · simp (disch := first | with_reducible assumption | omega | exact ga_in _ _ _ | exact gg_in _ _ _ | (unfold InR; omega) | (unfold InL; omega) | (simp only [shC_71, shC_72, shC_73, shC_74, shC_75, shC_76, shC_77, shC_78, shC_79, shL_72, shL_73, shL_74, shL_75, shL_76, shL_77, shL_78, shL_79]; first | done | omega)) only [q193_51, q193_53, q193_55, q193_58, q193_60, q193_61, q193_63, q193_66, q193_69, q193_72, q193_75, q193_76, q193_77, q193_79, e, k117 hL2, hp, c, Int.mul_one, Int.one_mul, pushR_I, pushR_L, pushR_R, pushR_V, InR_gg, InR_ga, InR_wr, InL_gl, InR_b, b01, b01_0, if_true, if_false, not_true_eq_false, not_false_eq_true, and_true, true_and, and_self, Sum.inl.injEq, one0, Bool.false_eq_true]
      rw [q193_82]
      exact ih (i + 1) a (by omega)
theorem l193i {G : Int → Int} (hR : RW σ 72 221 G) (hG : GOK G) {o c : Int} (ho : 0 ≤ o ∧ o < G 28) (hc : 0 ≤ c ∧ c ≤ 10) {L x : Nat} (hL : L < 128) (hx : x < 128) {v4 v6 : AV} : ∀ (n l : Nat) (a h : Int) (τ : SG), (l : Int) + n = G 13 → RW τ 74 34 (rH G o h) → 0 ≤ h ∧ h ≤ 99 → ONE 74 σ τ →
    (∀ τ', ONE 74 σ τ' → ga τ' 74 (1 + o) = hbF (G (29 + o)) (fun l => ltG G (l : Int)) ((L - (L &&& x) : Nat) : Int) l n h → Wp none (d + 19) 193 218 [.inr (.inr (.inl 71)), .inl o, .inl (L : Int), .inl c, v4, aU, v6, aU, .inl (x : Int), .inr (.inl (chF (x : Int) (L : Int) c l n a)), aU, .inl (G 13)] [] τ' Q) →
    Wp none (d + 19) 193 115 [.inr (.inr (.inl 71)), .inl o, .inl (L : Int), .inl c, v4, aU, v6, aU, .inl (x : Int), .inr (.inl a), aU, .inl (l : Int)] [] τ Q := by
  have c221 : ((221 : Nat) : Int) = 221 := rfl
  have G1 := hG.1
  have G2 := hG.2.1
  have hL2 : 0 ≤ (L : Int) ∧ (L : Int) < 2147483648 := by omega
  have hx2 : 0 ≤ (x : Int) ∧ (x : Int) < 2147483648 := by omega
  intro n
  induction n with
  | zero =>
    intro l a h τ hl hr hh hs hq
    have hrt := RW_other hR hs (by omega)
    have e13 : ga τ 72 13 = G 13 := hrt 13 (by omega) (by omega)
    have e : G 13 ≤ (l : Int) := by omega
    have el : (l : Int) = G 13 := by omega
    have eh : ga τ 74 (1 + o) = h := by
      rw [hr (1 + o) (by omega) (by omega)]
      unfold rH
      rw [if_pos rfl]
    simp (disch := first | with_reducible assumption | omega | exact ga_in _ _ _ | exact gg_in _ _ _ | (unfold InR; omega) | (unfold InL; omega) | (simp only [shC_71, shC_72, shC_73, shC_74, shC_75, shC_76, shC_77, shC_78, shC_79, shL_72, shL_73, shL_74, shL_75, shL_76, shL_77, shL_78, shL_79]; first | done | omega)) only [q193_115, q193_117, q193_118, q193_121, q193_123, q193_124, shC_71, shC_72, shC_73, shC_74, shC_75, shC_76, shC_77, shC_78, shC_79, shL_72, shL_73, shL_74, shL_75, shL_76, shL_77, shL_78, shL_79, shR_71_0, shR_71_1, shR_71_2, shR_71_3, shR_71_4, shR_71_5, shR_71_8, shR_71_15, c221, e13, e, pushR_I, pushR_L, pushR_R, pushR_V, InR_gg, InR_ga, InR_wr, InL_gl, InR_b, b01, b01_0, if_true, if_false, not_true_eq_false, not_false_eq_true, and_true, true_and, and_self, Sum.inl.injEq, one0, Bool.false_eq_true]
    rw [el]
    exact hq τ hs eh
  | succ n ih =>
    intro l a h τ hl hr hh hs hq
    have hrt := RW_other hR hs (by omega)
    have hgH := GOK_rH hG ho hh
    have hM := MOKn hr (by omega) hgH
    have e13 : ga τ 72 13 = G 13 := hrt 13 (by omega) (by omega)
    have e : ¬ G 13 ≤ (l : Int) := by omega
    have dn : ∀ i : Int, ¬ i = 1 + o → rH G o h i = G i := fun i q => by unfold rH; rw [if_neg q]
    have eh : ga τ 74 (1 + o) = h := by
      rw [hr (1 + o) (by omega) (by omega)]
      unfold rH
      rw [if_pos rfl]
    have ek : ga τ 74 (29 + o) = G (29 + o) := by rw [hr (29 + o) (by omega) (by omega), dn _ (by omega)]
    have f13 : ga τ 74 13 = G 13 := by rw [hr 13 (by omega) (by omega), dn _ (by omega)]
    have elt : ltM τ 74 (l : Int) = ltG G (l : Int) := by
      rw [ltM_G hr (by omega) hgH (by rw [dn 13 (by omega)]; omega)]
      unfold ltG
      rw [dn _ (by omega), dn _ (by omega), dn _ (by omega), dn _ (by omega)]
    have bl := (tkG_b hG (l := (l : Int)) (o := o) ⟨by omega, by omega⟩ ho).1
    have bk := (hG.2.2.2.2.1 o ho.1 ho.2).1
    have bt := tkI_b (kind := G (29 + o)) bl hh
    have bt0 : tkI (G (29 + o)) 0 h = 0 := tkI_z hh.1
    have bhe := heI_b (m := tkI (G (29 + o)) (ltG G (l : Int)) h) hh bt.1
    have hpL : ((L : Int) / 2 ^ (l : Int).toNat % 2 = 1) = (bitB L l = true) := by rw [← hasb_nat]; unfold hasb; rw [Int.toNat_natCast]; simp
    have hpx : ((x : Int) / 2 ^ (l : Int).toNat % 2 = 1) = (bitB x l = true) := by rw [← hasb_nat]; unfold hasb; rw [Int.toNat_natCast]; simp
    have hbb := hb_bits hL hx (i := l) (by omega)
    have hbb2 : bitB (L - (L &&& x)) l = (bitB L l && !bitB x l) := by rw [← hasb_nat]; exact hbb
    simp only [hbF, chF, hasb_nat, hbb2] at hq
    by_cases cL : bitB L l = true
    · by_cases cx : bitB x l = true
      · simp only [cL, cx, Bool.not_true, Bool.and_false, Bool.false_eq_true, if_true, if_false] at hq
        have hz : heI h 0 = h := heI_z hh.2
        simp (disch := first | with_reducible assumption | omega | exact ga_in _ _ _ | exact gg_in _ _ _ | (unfold InR; omega) | (unfold InL; omega) | (simp only [shC_71, shC_72, shC_73, shC_74, shC_75, shC_76, shC_77, shC_78, shC_79, shL_72, shL_73, shL_74, shL_75, shL_76, shL_77, shL_78, shL_79]; first | done | omega)) only [q193_115, q193_117, q193_118, q193_121, q193_123, q193_124, q193_127, q193_128, q193_130, q193_133, q193_136, q193_138, q193_140, q193_142, q193_145, q193_148, q193_149, q193_150, q193_153, q193_155, q193_156, q193_157, q193_158, q193_159, q193_161, q193_162, q193_165, q193_166, q193_167, q193_170, q193_172, q193_173, q193_174, q193_175, q193_177, q193_179, q193_182, q193_185, q193_186, q193_189, q193_190, q193_193, q193_195, q193_198, q193_199, q193_202, q193_203, q193_204, q193_205, q193_206, q193_209, q193_212, shC_71, shC_72, shC_73, shC_74, shC_75, shC_76, shC_77, shC_78, shC_79, shL_72, shL_73, shL_74, shL_75, shL_76, shL_77, shL_78, shL_79, shR_71_0, shR_71_1, shR_71_2, shR_71_3, shR_71_4, shR_71_5, shR_71_8, shR_71_15, c221, e13, e, k117 hL2, k117 hx2, hpL, hpx, cL, cx, ek, eh, k128, bt0, k131 (σ := τ) M74, hz, pushR_I, pushR_L, pushR_R, pushR_V, InR_gg, InR_ga, InR_wr, InL_gl, InR_b, b01, b01_0, if_true, if_false, not_true_eq_false, not_false_eq_true, and_true, true_and, and_self, Sum.inl.injEq, one0, Bool.false_eq_true]
        rw [q193_215]
        exact ih (l + 1) (a * c) h _ (by omega) (RW_rH hr (by omega) ⟨by omega, by omega⟩) hh (ONE_ua hs) hq
      · simp only [cL, cx, Bool.not_false, Bool.and_true, Bool.false_eq_true, if_true, if_false] at hq
        simp (disch := first | with_reducible assumption | omega | exact ga_in _ _ _ | exact gg_in _ _ _ | (unfold InR; omega) | (unfold InL; omega) | (simp only [shC_71, shC_72, shC_73, shC_74, shC_75, shC_76, shC_77, shC_78, shC_79, shL_72, shL_73, shL_74, shL_75, shL_76, shL_77, shL_78, shL_79]; first | done | omega)) only [q193_115, q193_117, q193_118, q193_121, q193_123, q193_124, q193_127, q193_128, q193_130, q193_133, q193_136, q193_138, q193_140, q193_142, q193_145, q193_148, q193_149, q193_150, q193_153, q193_155, q193_156, q193_157, q193_158, q193_159, q193_161, q193_162, q193_165, q193_166, q193_167, q193_170, q193_172, q193_173, q193_174, q193_175, q193_177, q193_179, q193_182, q193_185, q193_186, q193_189, q193_190, q193_193, q193_195, q193_198, q193_199, q193_202, q193_203, q193_204, q193_205, q193_206, q193_209, q193_212, shC_71, shC_72, shC_73, shC_74, shC_75, shC_76, shC_77, shC_78, shC_79, shL_72, shL_73, shL_74, shL_75, shL_76, shL_77, shL_78, shL_79, shR_71_0, shR_71_1, shR_71_2, shR_71_3, shR_71_4, shR_71_5, shR_71_8, shR_71_15, c221, e13, e, k117 hL2, k117 hx2, hpL, hpx, cL, cx, ek, eh, k129 M74 hM, elt, k128, k131 (σ := τ) M74, pushR_I, pushR_L, pushR_R, pushR_V, InR_gg, InR_ga, InR_wr, InL_gl, InR_b, b01, b01_0, if_true, if_false, not_true_eq_false, not_false_eq_true, and_true, true_and, and_self, Sum.inl.injEq, one0, Bool.false_eq_true]
        rw [q193_215]
        exact ih (l + 1) (a * (10 - c)) (heI h (tkI (G (29 + o)) (ltG G (l : Int)) h)) _ (by omega) (RW_rH hr (by omega) ⟨by omega, by omega⟩) bhe (ONE_ua hs) hq
    · simp only [cL, Bool.false_and, Bool.false_eq_true, if_false] at hq
      simp (disch := first | with_reducible assumption | omega | exact ga_in _ _ _ | exact gg_in _ _ _ | (unfold InR; omega) | (unfold InL; omega) | (simp only [shC_71, shC_72, shC_73, shC_74, shC_75, shC_76, shC_77, shC_78, shC_79, shL_72, shL_73, shL_74, shL_75, shL_76, shL_77, shL_78, shL_79]; first | done | omega)) only [q193_115, q193_117, q193_118, q193_121, q193_123, q193_124, q193_127, q193_128, q193_130, q193_133, q193_136, q193_138, q193_140, q193_142, q193_145, q193_148, q193_149, q193_150, q193_153, q193_155, q193_156, q193_157, q193_158, q193_159, q193_161, q193_162, q193_165, q193_166, q193_167, q193_170, q193_172, q193_173, q193_174, q193_175, q193_177, q193_179, q193_182, q193_185, q193_186, q193_189, q193_190, q193_193, q193_195, q193_198, q193_199, q193_202, q193_203, q193_204, q193_205, q193_206, q193_209, q193_212, shC_71, shC_72, shC_73, shC_74, shC_75, shC_76, shC_77, shC_78, shC_79, shL_72, shL_73, shL_74, shL_75, shL_76, shL_77, shL_78, shL_79, shR_71_0, shR_71_1, shR_71_2, shR_71_3, shR_71_4, shR_71_5, shR_71_8, shR_71_15, c221, e13, e, k117 hL2, hpL, cL, pushR_I, pushR_L, pushR_R, pushR_V, InR_gg, InR_ga, InR_wr, InL_gl, InR_b, b01, b01_0, if_true, if_false, not_true_eq_false, not_false_eq_true, and_true, true_and, and_self, Sum.inl.injEq, one0, Bool.false_eq_true]
      rw [q193_215]
      exact ih (l + 1) a h τ (by omega) hr hh hs hq
theorem l193 {G : Int → Int} (hR : RW σ 72 221 G) (hG : GOK G) {o c : Int} (ho : 0 ≤ o ∧ o < G 28) (hc : 0 ≤ c ∧ c ≤ 10) {L : Nat} (hL : L < 128) (hL2 : L < 2 ^ (G 13).toNat) {v6 : AV} : ∀ (n x : Nat) (s : Int) (τ : SG) (w9 w10 w11 : AV), x + n = 128 → ONE 74 σ τ →
    (∀ τ' w9 w10 w11, ONE 74 σ τ' → Wp none (d + 19) 193 248 [.inr (.inr (.inl 71)), .inl o, .inl (L : Int), .inl c, .inr (.inl (s + sumF (fun m => if sbT L m then (if 20 ≤ htT G o L m then chT c L m else 0) else 0) x n)), aU, v6, aU, .inl 128, w9, w10, w11] [] τ' Q) →
    Wp none (d + 19) 193 88 [.inr (.inr (.inl 71)), .inl o, .inl (L : Int), .inl c, .inr (.inl s), aU, v6, aU, .inl (x : Int), w9, w10, w11] [] τ Q := by
  have c221 : ((221 : Nat) : Int) = 221 := rfl
  have G1 := hG.1
  have G2 := hG.2.1
  intro n
  induction n with
  | zero =>
    intro x s τ w9 w10 w11 hx hs hq
    have e : x = 128 := by omega
    subst e
    have e1 : ((128 : Nat) : Int) = 128 := rfl
    have := hq τ w9 w10 w11 hs
    simp only [sumF, Int.add_zero] at this
    simp (disch := first | with_reducible assumption | omega | exact ga_in _ _ _ | exact gg_in _ _ _ | (unfold InR; omega) | (unfold InL; omega) | (simp only [shC_71, shC_72, shC_73, shC_74, shC_75, shC_76, shC_77, shC_78, shC_79, shL_72, shL_73, shL_74, shL_75, shL_76, shL_77, shL_78, shL_79]; first | done | omega)) only [q193_88, q193_90, q193_93, e1, Int.le_refl, pushR_I, pushR_L, pushR_R, pushR_V, InR_gg, InR_ga, InR_wr, InL_gl, InR_b, b01, b01_0, if_true, if_false, not_true_eq_false, not_false_eq_true, and_true, true_and, and_self, Sum.inl.injEq, one0, Bool.false_eq_true]
    exact this
  | succ n ih =>
    intro x s τ w9 w10 w11 hx hs hq
    have hrt := RW_other hR hs (by omega)
    have e : ¬ (128 : Int) ≤ (x : Int) := by omega
    have hand : x &&& L ≤ x := Nat.and_le_left
    have n63 : ¬ (-(L : Int) - 1 = 63) := by omega
    have nL : ¬ (0 ≤ -(L : Int) - 1) := by omega
    have tL : (-(-(L : Int) - 1) - 1).toNat = L := by omega
    have eA : (x : Int) - ((x &&& L : Nat) : Int) = ((x - (x &&& L) : Nat) : Int) := by omega
    simp only [sumF] at hq
    by_cases c1 : x &&& L = x
    · have hsb : sbT L x = true := decide_eq_true c1
      have z : ((x - (x &&& L) : Nat) : Int) = 0 := by omega
      simp only [hsb, if_true] at hq
      have b5 := (hG.2.2.2.2.1 o ho.1 ho.2).2
      have hra := RW_asIt hrt
      have hra' : RW (asIt τ) 74 34 (rH G o (G (1 + o))) := fun i a b => by
        rw [hra i a b]
        unfold rH
        by_cases q : i = 1 + o
        · rw [if_pos q, q]
        · rw [if_neg q]
      simp (disch := first | with_reducible assumption | omega | exact ga_in _ _ _ | exact gg_in _ _ _ | (unfold InR; omega) | (unfold InL; omega) | (simp only [shC_71, shC_72, shC_73, shC_74, shC_75, shC_76, shC_77, shC_78, shC_79, shL_72, shL_73, shL_74, shL_75, shL_76, shL_77, shL_78, shL_79]; first | done | omega)) only [q193_88, q193_90, q193_93, q193_96, q193_98, q193_99, q193_100, q193_101, q193_102, q193_105, q193_106, q193_108, q193_109, q193_112, q193_113, shC_71, shC_72, shC_73, shC_74, shC_75, shC_76, shC_77, shC_78, shC_79, shL_72, shL_73, shL_74, shL_75, shL_76, shL_77, shL_78, shL_79, shR_71_0, shR_71_1, shR_71_2, shR_71_3, shR_71_4, shR_71_5, shR_71_8, shR_71_15, e, n63, nL, tL, Int.toNat_natCast, eA, z, k137, pushR_I, pushR_L, pushR_R, pushR_V, InR_gg, InR_ga, InR_wr, InL_gl, InR_b, b01, b01_0, if_true, if_false, not_true_eq_false, not_false_eq_true, and_true, true_and, and_self, Sum.inl.injEq, one0, Bool.false_eq_true]
      refine l193i (d := d) (σ := σ) (Q := Q) hR hG ho hc hL (x := x) (by omega) (G 13).toNat 0 1 (G (1 + o)) (asIt τ) (by omega) hra' b5 (ONE_trans hs asIt_one) (fun τ' ht eh => ?_)
      have ec : chF (x : Int) (L : Int) c 0 (G 13).toNat 1 = chT c L x := by
        unfold chT
        rw [show (7 : Nat) = (G 13).toNat + (7 - (G 13).toNat) by omega, chF_cut _ _ _ _ (fun j hj => by rw [hasb_nat]; exact bit_hi hL2 (by omega))]
      change ga τ' 74 (1 + o) = htT G o L x at eh
      have hr : InR (htT G o L x) := by rw [← eh]; exact ga_in _ _ _
      rw [ec]
      by_cases c2 : 20 ≤ htT G o L x
      · have c2' : ¬ htT G o L x < 20 := by omega
        simp only [c2, if_true] at hq
        simp (disch := first | with_reducible assumption | omega | exact ga_in _ _ _ | exact gg_in _ _ _ | (unfold InR; omega) | (unfold InL; omega) | (simp only [shC_71, shC_72, shC_73, shC_74, shC_75, shC_76, shC_77, shC_78, shC_79, shL_72, shL_73, shL_74, shL_75, shL_76, shL_77, shL_78, shL_79]; first | done | omega)) only [q193_218, q193_220, q193_221, q193_224, q193_225, q193_226, q193_227, q193_228, q193_230, q193_233, q193_235, q193_238, q193_239, q193_240, q193_242, shC_71, shC_72, shC_73, shC_74, shC_75, shC_76, shC_77, shC_78, shC_79, shL_72, shL_73, shL_74, shL_75, shL_76, shL_77, shL_78, shL_79, shR_71_0, shR_71_1, shR_71_2, shR_71_3, shR_71_4, shR_71_5, shR_71_8, shR_71_15, c221, eh, c2', pushR_I, pushR_L, pushR_R, pushR_V, InR_gg, InR_ga, InR_wr, InL_gl, InR_b, b01, b01_0, if_true, if_false, not_true_eq_false, not_false_eq_true, and_true, true_and, and_self, Sum.inl.injEq, one0, Bool.false_eq_true]
        rw [q193_245]
        refine ih (x + 1) (s + chT c L x) τ' _ _ _ (by omega) ht (fun τ2 w9 w10 w11 ht2 => ?_)
        rw [Int.add_assoc]
        exact hq τ2 w9 w10 w11 ht2
      · have c2' : htT G o L x < 20 := by omega
        simp only [c2, if_false, Int.zero_add] at hq
        simp (disch := first | with_reducible assumption | omega | exact ga_in _ _ _ | exact gg_in _ _ _ | (unfold InR; omega) | (unfold InL; omega) | (simp only [shC_71, shC_72, shC_73, shC_74, shC_75, shC_76, shC_77, shC_78, shC_79, shL_72, shL_73, shL_74, shL_75, shL_76, shL_77, shL_78, shL_79]; first | done | omega)) only [q193_218, q193_220, q193_221, q193_224, q193_225, q193_226, q193_227, q193_228, q193_230, q193_233, q193_235, q193_238, q193_239, q193_240, q193_242, shC_71, shC_72, shC_73, shC_74, shC_75, shC_76, shC_77, shC_78, shC_79, shL_72, shL_73, shL_74, shL_75, shL_76, shL_77, shL_78, shL_79, shR_71_0, shR_71_1, shR_71_2, shR_71_3, shR_71_4, shR_71_5, shR_71_8, shR_71_15, c221, eh, c2', Int.add_zero, pushR_I, pushR_L, pushR_R, pushR_V, InR_gg, InR_ga, InR_wr, InL_gl, InR_b, b01, b01_0, if_true, if_false, not_true_eq_false, not_false_eq_true, and_true, true_and, and_self, Sum.inl.injEq, one0, Bool.false_eq_true]
        rw [q193_245]
        exact ih (x + 1) s τ' _ _ _ (by omega) ht hq
    · have hsb : sbT L x = false := decide_eq_false c1
      have z : ¬ ((x - (x &&& L) : Nat) : Int) = 0 := by omega
      simp only [hsb, Bool.false_eq_true, if_false, Int.zero_add] at hq
      simp (disch := first | with_reducible assumption | omega | exact ga_in _ _ _ | exact gg_in _ _ _ | (unfold InR; omega) | (unfold InL; omega) | (simp only [shC_71, shC_72, shC_73, shC_74, shC_75, shC_76, shC_77, shC_78, shC_79, shL_72, shL_73, shL_74, shL_75, shL_76, shL_77, shL_78, shL_79]; first | done | omega)) only [q193_88, q193_90, q193_93, q193_96, q193_98, q193_99, q193_100, q193_101, q193_102, q193_105, q193_106, q193_108, q193_109, q193_112, q193_113, q193_242, shC_71, shC_72, shC_73, shC_74, shC_75, shC_76, shC_77, shC_78, shC_79, shL_72, shL_73, shL_74, shL_75, shL_76, shL_77, shL_78, shL_79, shR_71_0, shR_71_1, shR_71_2, shR_71_3, shR_71_4, shR_71_5, shR_71_8, shR_71_15, e, n63, nL, tL, Int.toNat_natCast, eA, z, pushR_I, pushR_L, pushR_R, pushR_V, InR_gg, InR_ga, InR_wr, InL_gl, InR_b, b01, b01_0, if_true, if_false, not_true_eq_false, not_false_eq_true, and_true, true_and, and_self, Sum.inl.injEq, one0, Bool.false_eq_true]
      rw [q193_245]
      exact ih (x + 1) s τ _ _ _ (by omega) hs hq
theorem o193 (h : MR σ S) (hS : SOK S) {o lies c : Int} (ho : InR o) (hl : InR lies) (hc : InR c) : CalE (d + 20) 193 [.inr (.inr (.inl 71)), .inl o, .inl lies, .inl c] σ (OPM σ (fTrues S o lies c)) := by
  have hO := MOKn h.1 (by omega) hS.1
  have c221 : ((221 : Nat) : Int) = 221 := rfl
  have e13 : ga σ 72 13 = S 0 13 := h.1 13 (by omega) (by omega)
  have e28 : ga σ 72 28 = S 0 28 := h.1 28 (by omega) (by omega)
  have g13 := hS.1.1
  have hb := pow_n g13
  have e1 : (1 : Int) * 2 ^ (S 0 13).toNat = 2 ^ (S 0 13).toNat := Int.one_mul _
  have q4 : (1 : Int) * 2 ^ (S 0 13).toNat < 4294967296 := by omega
  refine Cal_ex (ls := [.inr (.inr (.inl 71)), .inl o, .inl lies, .inl c, aU, aU, aU, aU, aU, aU, aU, aU]) rfl mna_193 mml_193 mhl_193 rfl rfl ?_
  unfold fTrues
  by_cases h1 : 0 ≤ o ∧ o < ga σ 72 28
  · have h1' : 0 ≤ o ∧ o < S 0 28 := by omega
    by_cases h2 : 0 ≤ lies ∧ lies ≤ 2 ^ (S 0 13).toNat - 1
    · by_cases h3 : 0 ≤ c ∧ c ≤ 10
      · rw [if_pos ⟨h1', h2, h3⟩]
        have el : lies = (lies.toNat : Int) := by omega
        simp (disch := first | with_reducible assumption | omega | exact ga_in _ _ _ | exact gg_in _ _ _ | (unfold InR; omega) | (unfold InL; omega) | (simp only [shC_71, shC_72, shC_73, shC_74, shC_75, shC_76, shC_77, shC_78, shC_79, shL_72, shL_73, shL_74, shL_75, shL_76, shL_77, shL_78, shL_79]; first | done | omega)) only [q193_0, q193_1, q193_2, q193_5, q193_8, q193_9, q193_10, q193_11, q193_12, q193_15, q193_17, q193_18, q193_19, q193_20, q193_21, q193_24, q193_27, q193_28, q193_29, q193_31, q193_34, q193_37, q193_38, q193_41, q193_42, q193_43, q193_45, q193_46, q193_48, q193_49, shC_71, shC_72, shC_73, shC_74, shC_75, shC_76, shC_77, shC_78, shC_79, shL_72, shL_73, shL_74, shL_75, shL_76, shL_77, shL_78, shL_79, shR_71_0, shR_71_1, shR_71_2, shR_71_3, shR_71_4, shR_71_5, shR_71_8, shR_71_15, c221, k123 hO.2.1, k116, h1, h2, h3, e13, e1, pushR_I, pushR_L, pushR_R, pushR_V, InR_gg, InR_ga, InR_wr, InL_gl, InR_b, b01, b01_0, if_true, if_false, not_true_eq_false, not_false_eq_true, and_true, true_and, and_self, Sum.inl.injEq, one0, Bool.false_eq_true]
        generalize hLn : lies.toNat = L at el ⊢
        have hL : L < 128 := by omega
        have hL2 : L < 2 ^ (S 0 13).toNat := by
          have : ((2 ^ (S 0 13).toNat : Nat) : Int) = 2 ^ (S 0 13).toNat := by simp
          omega
        have hA := truA_all (c := c) hL
        have hAb := pN_b (bitB L) 7 0
        have hA2 := truA_b h3 L (k := L + 1) (by omega)
        have hH2 := truH_b (g := S 0) (o := o) h3 L (k := L + 1) (by omega)
        have hH128 := truH_128 (g := S 0) (o := o) (c := c) hL
        have hA1 : 1 ≤ truA c L (L + 1) := by rw [hA]; exact hAb.1
        subst el
        refine (l193a (d := d) hL 7 0 1 (by omega)).mpr ?_
        rw [Int.one_mul, ← hA]
        simp (disch := first | with_reducible assumption | omega | exact ga_in _ _ _ | exact gg_in _ _ _ | (unfold InR; omega) | (unfold InL; omega) | (simp only [shC_71, shC_72, shC_73, shC_74, shC_75, shC_76, shC_77, shC_78, shC_79, shL_72, shL_73, shL_74, shL_75, shL_76, shL_77, shL_78, shL_79]; first | done | omega)) only [q193_85, q193_86, pushR_I, pushR_L, pushR_R, pushR_V, InR_gg, InR_ga, InR_wr, InL_gl, InR_b, b01, b01_0, if_true, if_false, not_true_eq_false, not_false_eq_true, and_true, true_and, and_self, Sum.inl.injEq, one0, Bool.false_eq_true]
        refine l193 (d := d) (σ := σ) h.1 hS.1 h1' h3 hL hL2 128 0 0 σ _ _ _ (by omega) (ONE_refl _ _) (fun τ' w9 w10 w11 ht => ?_)
        rw [Int.zero_add]
        change Wp none (d + 19) 193 248 [.inr (.inr (.inl 71)), .inl o, .inl (L : Int), .inl c, .inr (.inl (truH (S 0) o c L 128)), aU, .inr (.inl (truA c L (L + 1))), aU, .inl 128, w9, w10, w11] [] τ' _
        rw [← hH128]
        have eH : truH (S 0) o c L (L + 1) = ((truH (S 0) o c L (L + 1)).toNat : Int) := by omega
        have eA : truA c L (L + 1) = ((truA c L (L + 1)).toNat : Int) := by omega
        have hD : 0 < truD (S 0) o c L := Nat.gcd_pos_of_pos_right _ (by omega)
        have hDle : truD (S 0) o c L ≤ (truA c L (L + 1)).toNat := Nat.gcd_le_right _ (by omega)
        have K92 : ∀ υ : SG, CalK (d + 19) 192 [.inr (.inl (truH (S 0) o c L (L + 1))), .inr (.inl (truA c L (L + 1)))] υ = fun K => K (.inr (.inl (truD (S 0) o c L : Int))) υ := fun υ => by
          funext K
          rw [eH, eA, k192 (by omega) (by omega)]
          rfl
        have d1 : (0 : Int) < (truD (S 0) o c L : Int) := by omega
        simp (disch := first | with_reducible assumption | omega | exact ga_in _ _ _ | exact gg_in _ _ _ | (unfold InR; omega) | (unfold InL; omega) | (simp only [shC_71, shC_72, shC_73, shC_74, shC_75, shC_76, shC_77, shC_78, shC_79, shL_72, shL_73, shL_74, shL_75, shL_76, shL_77, shL_78, shL_79]; first | done | omega)) only [q193_248, q193_249, q193_251, q193_253, q193_255, q193_258, q193_259, q193_262, q193_263, q193_265, q193_267, q193_269, q193_272, q193_273, q193_276, q193_277, shC_71, shC_72, shC_73, shC_74, shC_75, shC_76, shC_77, shC_78, shC_79, shL_72, shL_73, shL_74, shL_75, shL_76, shL_77, shL_78, shL_79, shR_71_0, shR_71_1, shR_71_2, shR_71_3, shR_71_4, shR_71_5, shR_71_8, shR_71_15, K92, d1, pushR_I, pushR_L, pushR_R, pushR_V, InR_gg, InR_ga, InR_wr, InL_gl, InR_b, b01, b01_0, if_true, if_false, not_true_eq_false, not_false_eq_true, and_true, true_and, and_self, Sum.inl.injEq, one0, Bool.false_eq_true]
        have q1 := quo_b (b := truD (S 0) o c L) hH2
        have q2 := quo_b (b := truD (S 0) o c L) hA2
        generalize truH (S 0) o c L (L + 1) / (truD (S 0) o c L : Int) = X at q1 ⊢
        generalize truA c L (L + 1) / (truD (S 0) o c L : Int) = Y at q2 ⊢
        have h' : MR τ' S := MR_scr h (fun a b q => ht.1 a b (by unfold MRk at q; omega)) (fun b => ht.2 71 b)
        obtain ⟨c1, c2, c3, c4, c5, c6, c11, c12⟩ := h'
        have s0 : ∀ a, ¬ a = 4 → set4 (set4 S 6 X) 7 Y a = S a := fun a q => by funext x; unfold set4; rw [if_neg (by omega), if_neg (by omega)]
        have s4 : ∀ x, ¬ x = 6 → ¬ x = 7 → set4 (set4 S 6 X) 7 Y 4 x = S 4 x := fun x q r => by unfold set4; rw [if_neg (by omega), if_neg (by omega)]
        have s6 : set4 (set4 S 6 X) 7 Y 4 6 = X := by unfold set4; rw [if_neg (by omega), if_pos ⟨rfl, rfl⟩]
        have s7 : set4 (set4 S 6 X) 7 Y 4 7 = Y := by unfold set4; rw [if_pos ⟨rfl, rfl⟩]
        refine ⟨rfl, ?_, ⟨fun a b q => ht.1 a b (by omega), fun a b q => by rw [gl_ul_ne _ _ (by omega), gl_ul_ne _ _ (by omega)]; exact ht.2 a b⟩⟩
        show MR _ (set4 (set4 S 6 X) 7 Y)
        unfold MR
        rw [s0 0 (by omega), s0 1 (by omega), s0 2 (by omega), s0 3 (by omega), s4 0 (by omega) (by omega), s4 1 (by omega) (by omega), s4 2 (by omega) (by omega), s4 3 (by omega) (by omega), s4 4 (by omega) (by omega), s4 5 (by omega) (by omega), s6, s7]
        exact ⟨c1, c2, c3, c4, c5, c6, by rw [gl_ul_ne _ _ (by omega), gl_ul_eq, wrL_id q1], by rw [gl_ul_eq, wrL_id q2]⟩
      · rw [if_neg (fun q => h3 q.2.2)]
        simp (disch := first | with_reducible assumption | omega | exact ga_in _ _ _ | exact gg_in _ _ _ | (unfold InR; omega) | (unfold InL; omega) | (simp only [shC_71, shC_72, shC_73, shC_74, shC_75, shC_76, shC_77, shC_78, shC_79, shL_72, shL_73, shL_74, shL_75, shL_76, shL_77, shL_78, shL_79]; first | done | omega)) only [q193_0, q193_1, q193_2, q193_5, q193_8, q193_9, q193_10, q193_11, q193_12, q193_15, q193_17, q193_18, q193_19, q193_20, q193_21, q193_24, q193_27, q193_28, q193_29, q193_31, q193_34, q193_37, q193_38, q193_41, q193_42, q193_43, q193_45, q193_46, q193_48, q193_49, shC_71, shC_72, shC_73, shC_74, shC_75, shC_76, shC_77, shC_78, shC_79, shL_72, shL_73, shL_74, shL_75, shL_76, shL_77, shL_78, shL_79, shR_71_0, shR_71_1, shR_71_2, shR_71_3, shR_71_4, shR_71_5, shR_71_8, shR_71_15, c221, k123 hO.2.1, k116, h1, h2, h3, e13, e1, k118, pushR_I, pushR_L, pushR_R, pushR_V, InR_gg, InR_ga, InR_wr, InL_gl, InR_b, b01, b01_0, if_true, if_false, not_true_eq_false, not_false_eq_true, and_true, true_and, and_self, Sum.inl.injEq, one0, Bool.false_eq_true]
        exact MO_bad h
    · rw [if_neg (fun q => h2 q.2.1)]
      simp (disch := first | with_reducible assumption | omega | exact ga_in _ _ _ | exact gg_in _ _ _ | (unfold InR; omega) | (unfold InL; omega) | (simp only [shC_71, shC_72, shC_73, shC_74, shC_75, shC_76, shC_77, shC_78, shC_79, shL_72, shL_73, shL_74, shL_75, shL_76, shL_77, shL_78, shL_79]; first | done | omega)) only [q193_0, q193_1, q193_2, q193_5, q193_8, q193_9, q193_10, q193_11, q193_12, q193_15, q193_17, q193_18, q193_19, q193_20, q193_21, q193_24, q193_27, q193_28, q193_29, q193_31, q193_34, q193_37, q193_38, q193_41, q193_42, q193_43, q193_45, q193_46, q193_48, q193_49, shC_71, shC_72, shC_73, shC_74, shC_75, shC_76, shC_77, shC_78, shC_79, shL_72, shL_73, shL_74, shL_75, shL_76, shL_77, shL_78, shL_79, shR_71_0, shR_71_1, shR_71_2, shR_71_3, shR_71_4, shR_71_5, shR_71_8, shR_71_15, c221, k123 hO.2.1, k116, h1, h2, e13, e1, k118, pushR_I, pushR_L, pushR_R, pushR_V, InR_gg, InR_ga, InR_wr, InL_gl, InR_b, b01, b01_0, if_true, if_false, not_true_eq_false, not_false_eq_true, and_true, true_and, and_self, Sum.inl.injEq, one0, Bool.false_eq_true]
      exact MO_bad h
  · rw [if_neg (fun q => h1 (by have := q.1; unfold hasO at this; omega))]
    simp (disch := first | with_reducible assumption | omega | exact ga_in _ _ _ | exact gg_in _ _ _ | (unfold InR; omega) | (unfold InL; omega) | (simp only [shC_71, shC_72, shC_73, shC_74, shC_75, shC_76, shC_77, shC_78, shC_79, shL_72, shL_73, shL_74, shL_75, shL_76, shL_77, shL_78, shL_79]; first | done | omega)) only [q193_0, q193_1, q193_2, q193_5, q193_8, q193_9, q193_10, q193_11, q193_12, q193_15, q193_17, q193_18, q193_19, q193_20, q193_21, q193_24, q193_27, q193_28, q193_29, q193_31, q193_34, q193_37, q193_38, q193_41, q193_42, q193_43, q193_45, q193_46, q193_48, q193_49, shC_71, shC_72, shC_73, shC_74, shC_75, shC_76, shC_77, shC_78, shC_79, shL_72, shL_73, shL_74, shL_75, shL_76, shL_77, shL_78, shL_79, shR_71_0, shR_71_1, shR_71_2, shR_71_3, shR_71_4, shR_71_5, shR_71_8, shR_71_15, k123 hO.2.1, h1, k118, pushR_I, pushR_L, pushR_R, pushR_V, InR_gg, InR_ga, InR_wr, InL_gl, InR_b, b01, b01_0, if_true, if_false, not_true_eq_false, not_false_eq_true, and_true, true_and, and_self, Sum.inl.injEq, one0, Bool.false_eq_true]
    exact MO_bad h
end MTRU
