-- the reference: few, by numbers
def rSayL (o : Int) : List Nat → (Int → Int) → Int → Int
  | [], g => g
  | l :: r, g => rSayL o r (rSay g (l : Int) o)
section MFEW
variable {d : Nat} {σ : SG} {S : Nat → Int → Int} {K : AV → SG → Prop} {Q : AV → SG → Prop} {g : Int → Int} {m : Nat}
theorem rSay_p {l o : Int} (hl : 0 ≤ l) (ho : 0 ≤ o ∧ o ≤ 4) : rSay g l o (1 + o) = heI (g (1 + o)) (tkG g o l) ∧ (∀ i : Int, 13 ≤ i + l → 13 ≤ i → ¬ i = 6 + l → rSay g l o i = g i) ∧ rSay g l o 0 = g 0 := by
  refine ⟨?_, fun i h1 h2 h3 => ?_, ?_⟩
  · unfold rSay; rw [if_neg (by omega), if_pos rfl]
  · unfold rSay; rw [if_neg h3, if_neg (by omega)]
  · unfold rSay; rw [if_neg (by omega), if_neg (by omega)]
theorem tkN_say {o o2 : Int} {l : Nat} (hl : l < 7) (ho : 0 ≤ o ∧ o ≤ 4) (ho2 : 0 ≤ o2) : tkN (rSay g (l : Int) o) o2 = tkN g o2 := by
  funext j k h
  have s : ∀ i : Int, 13 ≤ i → rSay g (l : Int) o i = g i := fun i hi => by unfold rSay; rw [if_neg (by omega), if_neg (by omega)]
  have s0 : rSay g (l : Int) o 0 = g 0 := by unfold rSay; rw [if_neg (by omega), if_neg (by omega)]
  unfold tkN
  rw [s _ (by omega), s _ (by omega), s _ (by omega), s0]
theorem knG_say {o : Int} {l : Nat} (ho : 0 ≤ o ∧ o ≤ 4) : knG (rSay g (l : Int) o) = upk (knG g) l := by
  funext j
  unfold knG upk rSay
  by_cases e : j = l
  · subst e
    rw [if_pos rfl, if_pos rfl]
  · rw [if_neg (by omega), if_neg (by omega), if_neg e]
theorem sayL_fin {o : Int} (ho : 0 ≤ o ∧ o ≤ 4) : ∀ (L : List Nat) (g : Int → Int), (∀ l ∈ L, l < 7) → rSayL o L g (1 + o) = finH (tkN g o) L (knG g) (g (1 + o)) := by
  intro L
  induction L with
  | nil => intro g _; rfl
  | cons l r ih =>
    intro g hl
    simp only [rSayL, finH]
    rw [ih _ (fun x hx => hl x (List.mem_cons_of_mem _ hx)), tkN_say (hl l List.mem_cons_self) ho ho.1, knG_say ho, (rSay_p (g := g) (l := (l : Int)) (by omega) ho).1]
    rfl
theorem l167 {V N : Nat} (hV : V ≤ 8) (hN : N ≤ 5) : ∀ (n i : Nat), i + n = N → Wp none d 167 4 [.inl (V : Int), .inl (N : Int), .inl ((V ^ i : Nat) : Int), .inl (i : Int)] [] σ Q = Q (.inl ((V ^ N : Nat) : Int)) σ := by
  have hpow : ∀ i, i ≤ 5 → V ^ i ≤ 32768 := fun i hi => Nat.le_trans (Nat.pow_le_pow_left hV i) (Nat.le_trans (Nat.pow_le_pow_right (by omega) hi) (by decide))
  intro n
  induction n with
  | zero =>
    intro i hi
    have e : i = N := by omega
    subst e
    have := hpow i (by omega)
    simp (disch := first | with_reducible assumption | omega | exact ga_in _ _ _ | exact gg_in _ _ _ | (unfold InR; omega) | (unfold InL; omega)) only [q167_4, q167_5, q167_6, q167_19, q167_20, Int.le_refl, pushR_I, pushR_L, pushR_R, pushR_V, InR_gg, InR_ga, InR_wr, InL_gl, InR_b, b01, b01_0, if_true, if_false, not_true_eq_false, not_false_eq_true, and_true, true_and, and_self, Sum.inl.injEq, one0, Bool.false_eq_true]
  | succ n ih =>
    intro i hi
    have e : ¬ (N : Int) ≤ (i : Int) := by omega
    have ep : ((V ^ i : Nat) : Int) * (V : Int) = ((V ^ (i + 1) : Nat) : Int) := by rw [Nat.pow_succ, Int.natCast_mul]
    simp (disch := first | with_reducible assumption | omega | exact ga_in _ _ _ | exact gg_in _ _ _ | (unfold InR; omega) | (unfold InL; omega)) only [q167_4, q167_5, q167_6, q167_9, q167_10, q167_11, q167_12, q167_13, e, ep, pushR_I, pushR_L, pushR_R, pushR_V, InR_gg, InR_ga, InR_wr, InL_gl, InR_b, b01, b01_0, if_true, if_false, not_true_eq_false, not_false_eq_true, and_true, true_and, and_self, Sum.inl.injEq, one0, Bool.false_eq_true]
    rw [q167_16]
    exact ih (i + 1) (by omega)
theorem m167 {V N : Nat} (hV : V ≤ 8) (hN : N ≤ 5) : Cal (d + 1) 167 [.inl (V : Int), .inl (N : Int)] σ (.inl ((V ^ N : Nat) : Int)) σ := by
  refine Cal_in (ls := [.inl (V : Int), .inl (N : Int), aU, aU]) rfl mna_167 mml_167 mhl_167 rfl rfl ?_
  simp (disch := first | with_reducible assumption | omega | exact ga_in _ _ _ | exact gg_in _ _ _ | (unfold InR; omega) | (unfold InL; omega)) only [q167_0, q167_1, q167_2, q167_3, pushR_I, pushR_L, pushR_R, pushR_V, InR_gg, InR_ga, InR_wr, InL_gl, InR_b, b01, b01_0, if_true, if_false, not_true_eq_false, not_false_eq_true, and_true, true_and, and_self, Sum.inl.injEq, one0, Bool.false_eq_true]
  exact (l167 (d := d) (σ := σ) hV hN N 0 (by omega)).mpr ⟨rfl, rfl⟩
theorem k167 {V N : Nat} (hV : V ≤ 8) (hN : N ≤ 5) : CalK (d + 1) 167 [.inl (V : Int), .inl (N : Int)] σ K = K (.inl ((V ^ N : Nat) : Int)) σ := CalK_eq (m167 hV hN)
theorem pow_b {V N : Nat} (hV : V ≤ 8) (hN : N ≤ 5) : V ^ N ≤ 32768 := Nat.le_trans (Nat.pow_le_pow_left hV N) (Nat.le_trans (Nat.pow_le_pow_right (by omega) hN) (by decide))
theorem m168 (hr : RW σ 72 221 g) {N : Nat} (hN : g 13 = (N : Int)) (hN7 : 0 < N ∧ N ≤ 7) {x mn k : Nat} (hm : mn ≤ 5) (hk : k < mn) (hx : x ≤ 100000) : Cal (d + 2) 168 [.inr (.inr (.inl 71)), .inl (x : Int), .inl (mn : Int), .inl (k : Int)] σ (.inl ((x / N ^ (mn - 1 - k) % N : Nat) : Int)) σ := by
  have c221 : ((221 : Nat) : Int) = 221 := rfl
  have e13 : ga σ 72 13 = (N : Int) := (hr 13 (by omega) (by omega)).trans hN
  have ee : (mn : Int) - 1 - (k : Int) = ((mn - 1 - k : Nat) : Int) := by omega
  have hp := pow_b (V := N) (N := mn - 1 - k) (by omega) (by omega)
  have hp0 : 0 < N ^ (mn - 1 - k) := Nat.pow_pos hN7.1
  have e1 : (x : Int) / ((N ^ (mn - 1 - k) : Nat) : Int) = ((x / N ^ (mn - 1 - k) : Nat) : Int) := rfl
  have e2 : ((x / N ^ (mn - 1 - k) : Nat) : Int) % (N : Int) = ((x / N ^ (mn - 1 - k) % N : Nat) : Int) := rfl
  have b1 : x / N ^ (mn - 1 - k) ≤ x := Nat.div_le_self _ _
  have b2 : x / N ^ (mn - 1 - k) % N < N := Nat.mod_lt _ hN7.1
  have i1 : 0 ≤ ((x / N ^ (mn - 1 - k) : Nat) : Int) := Int.natCast_nonneg _
  have i2 : ((x / N ^ (mn - 1 - k) : Nat) : Int) < 2147483648 := Int.lt_of_le_of_lt (Int.ofNat_le.mpr b1) (by omega)
  have i3 : InR ((x / N ^ (mn - 1 - k) % N : Nat) : Int) := by
    generalize x / N ^ (mn - 1 - k) % N = y at b2
    exact ⟨by omega, by omega⟩
  refine Cal_in (ls := [.inr (.inr (.inl 71)), .inl (x : Int), .inl (mn : Int), .inl (k : Int)]) rfl mna_168 mml_168 mhl_168 rfl rfl ?_
  simp (disch := first | with_reducible assumption | omega | exact ga_in _ _ _ | exact gg_in _ _ _ | (unfold InR; omega) | (unfold InL; omega) | (simp only [shC_71, shC_72, shC_73, shC_74, shC_75, shC_76, shC_77, shC_78, shC_79, shL_72, shL_73, shL_74, shL_75, shL_76, shL_77, shL_78, shL_79]; first | done | omega)) only [q168_0, q168_1, q168_2, q168_5, q168_7, q168_8, q168_9, q168_10, q168_11, q168_12, q168_13, q168_16, q168_17, q168_18, q168_21, q168_23, q168_24, q168_25, shC_71, shC_72, shC_73, shC_74, shC_75, shC_76, shC_77, shC_78, shC_79, shL_72, shL_73, shL_74, shL_75, shL_76, shL_77, shL_78, shL_79, shR_71_0, shR_71_1, shR_71_2, shR_71_3, shR_71_4, shR_71_5, shR_71_8, shR_71_15, c221, e13, ee, k167 (V := N) (N := mn - 1 - k) (by omega) (by omega), e1, e2, pushR_I, pushR_L, pushR_R, pushR_V, InR_gg, InR_ga, InR_wr, InL_gl, InR_b, b01, b01_0, if_true, if_false, not_true_eq_false, not_false_eq_true, and_true, true_and, and_self, Sum.inl.injEq, one0, Bool.false_eq_true]
theorem k168 (hr : RW σ 72 221 g) {N : Nat} (hN : g 13 = (N : Int)) (hN7 : 0 < N ∧ N ≤ 7) {x mn k : Nat} (hm : mn ≤ 5) (hk : k < mn) (hx : x ≤ 100000) : CalK (d + 2) 168 [.inr (.inr (.inl 71)), .inl (x : Int), .inl (mn : Int), .inl (k : Int)] σ K = K (.inl ((x / N ^ (mn - 1 - k) % N : Nat) : Int)) σ := CalK_eq (m168 hr hN hN7 hm hk hx)
theorem digs_lt {n : Nat} (hn : 0 < n) : ∀ (m x : Nat), ∀ l ∈ digs n m x, l < n := by
  intro m
  induction m with
  | zero => intro x l hl; simp [digs] at hl
  | succ m ih =>
    intro x l hl
    simp only [digs, List.mem_cons] at hl
    rcases hl with rfl | hl
    · exact Nat.mod_lt _ hn
    · exact ih x l hl
theorem digs_len {n : Nat} : ∀ (m x : Nat), (digs n m x).length = m := by
  intro m
  induction m with
  | zero => intro x; rfl
  | succ m ih => intro x; simp only [digs, List.length_cons]; rw [ih]
theorem digs_get {n : Nat} : ∀ (m x k : Nat), k < m → (digs n m x).getD k 0 = x / n ^ (m - 1 - k) % n := by
  intro m
  induction m with
  | zero => intro x k h; omega
  | succ m ih =>
    intro x k h
    simp only [digs]
    cases k with
    | zero => simp
    | succ k =>
      have := ih x k (by omega)
      rw [show m + 1 - 1 - (k + 1) = m - 1 - k by omega, ← this]
      simp
theorem l169s {G : Int → Int} (hR : RW σ 72 221 G) (hG : GOK G) {o kk : Int} (ho : 0 ≤ o ∧ o < G 28) {N mn x : Nat} (hN : G 13 = (N : Int)) (hN7 : 0 < N ∧ N ≤ 7) (hm : mn ≤ 5) (hx : x ≤ 100000) : ∀ (n i : Nat) (g : Int → Int) (τ : SG), i + n = mn → RW τ 74 34 g → GOK g → (g 13 = G 13 ∧ g 28 = G 28) → ONE 74 σ τ →
    (∀ τ', ONE 74 σ τ' → ga τ' 74 (1 + o) = rSayL o (digs N n x) g (1 + o) → Wp none (d + 19) 169 80 [.inr (.inr (.inl 71)), .inl o, .inl kk, .inl (mn : Int), .inl (x : Int), .inl (mn : Int)] [] τ' Q) →
    Wp none (d + 19) 169 51 [.inr (.inr (.inl 71)), .inl o, .inl kk, .inl (mn : Int), .inl (x : Int), .inl (i : Int)] [] τ Q := by
  have G2 := hG.2.1
  intro n
  induction n with
  | zero =>
    intro i g τ hi hr hg he hs hq
    have e : i = mn := by omega
    subst e
    simp (disch := first | with_reducible assumption | omega | exact ga_in _ _ _ | exact gg_in _ _ _ | (unfold InR; omega) | (unfold InL; omega) | (simp only [shC_71, shC_72, shC_73, shC_74, shC_75, shC_76, shC_77, shC_78, shC_79, shL_72, shL_73, shL_74, shL_75, shL_76, shL_77, shL_78, shL_79]; first | done | omega)) only [q169_51, q169_53, q169_54, Int.le_refl, pushR_I, pushR_L, pushR_R, pushR_V, InR_gg, InR_ga, InR_wr, InL_gl, InR_b, b01, b01_0, if_true, if_false, not_true_eq_false, not_false_eq_true, and_true, true_and, and_self, Sum.inl.injEq, one0, Bool.false_eq_true]
    exact hq τ hs (hr _ (by omega) (by omega))
  | succ n ih =>
    intro i g τ hi hr hg he hs hq
    have e : ¬ (mn : Int) ≤ (i : Int) := by omega
    have hO := MOKn hr (by omega) hg
    have hrt := RW_other hR hs (by omega)
    have e13 : ga τ 74 13 = g 13 := hr 13 (by omega) (by omega)
    have e28 : ga τ 74 28 = g 28 := hr 28 (by omega) (by omega)
    have en : mn - 1 - i = n := by omega
    have hlt : x / N ^ n % N < N := Nat.mod_lt _ hN7.1
    have hl' : 0 ≤ ((x / N ^ n % N : Nat) : Int) ∧ ((x / N ^ n % N : Nat) : Int) < g 13 := by omega
    have ho' : 0 ≤ o ∧ o < g 28 := by omega
    have s4 : ∀ j : Int, 13 ≤ j → rSay g ((x / N ^ n % N : Nat) : Int) o j = g j := fun j hj => by unfold rSay; rw [if_neg (by omega), if_neg (by omega)]
    simp only [digs, rSayL] at hq
    simp (disch := first | with_reducible assumption | omega | exact ga_in _ _ _ | exact gg_in _ _ _ | (unfold InR; omega) | (unfold InL; omega) | (simp only [shC_71, shC_72, shC_73, shC_74, shC_75, shC_76, shC_77, shC_78, shC_79, shL_72, shL_73, shL_74, shL_75, shL_76, shL_77, shL_78, shL_79]; first | done | omega)) only [q169_51, q169_53, q169_54, q169_57, q169_58, q169_61, q169_62, q169_64, q169_65, q169_67, q169_70, q169_71, q169_74, shC_71, shC_72, shC_73, shC_74, shC_75, shC_76, shC_77, shC_78, shC_79, shL_72, shL_73, shL_74, shL_75, shL_76, shL_77, shL_78, shL_79, shR_71_0, shR_71_1, shR_71_2, shR_71_3, shR_71_4, shR_71_5, shR_71_8, shR_71_15, e, k168 hrt hN hN7 (x := x) (mn := mn) (k := i) hm (by omega) hx, en, k132 M74 hO, pushR_I, pushR_L, pushR_R, pushR_V, InR_gg, InR_ga, InR_wr, InL_gl, InR_b, b01, b01_0, if_true, if_false, not_true_eq_false, not_false_eq_true, and_true, true_and, and_self, Sum.inl.injEq, one0, Bool.false_eq_true]
    rw [q169_77]
    exact ih (i + 1) _ _ (by omega) (RW_say hr (by omega) hg hl' ho') (GOK_say hg hl' ho') ⟨by rw [s4 _ (by omega)]; exact he.1, by rw [s4 _ (by omega)]; exact he.2⟩ (ONE_trans hs say_one) hq
theorem l169x {G : Int → Int} (hR : RW σ 72 221 G) (hG : GOK G) {o kk : Int} (ho : 0 ≤ o ∧ o < G 28) (hk : InR kk) (hk1 : -1 ≤ kk) {N mn : Nat} (hN : G 13 = (N : Int)) (hN7 : N ≤ 7) (hm : mn ≤ 5) : ∀ (n x : Nat) (τ : SG) (v5 : AV), x + n = N ^ mn → ONE 74 σ τ →
    (∀ τ' v5, ONE 74 σ τ' → match fndN (fun x => decide (20 ≤ finH (tkN G o) (digs N mn x) (knG G) (G (1 + o)))) n x with
      | none => Wp none (d + 19) 169 126 [.inr (.inr (.inl 71)), .inl o, .inl kk, .inl (mn : Int), .inl ((N ^ mn : Nat) : Int), v5] [] τ' Q
      | some y => Q (.inl (fewV (some (digs N mn y)) kk)) τ') →
    Wp none (d + 19) 169 28 [.inr (.inr (.inl 71)), .inl o, .inl kk, .inl (mn : Int), .inl (x : Int), v5] [] τ Q := by
  have c221 : ((221 : Nat) : Int) = 221 := rfl
  have G2 := hG.2.1
  have hp := pow_b (V := N) (N := mn) (by omega) hm
  intro n
  induction n with
  | zero =>
    intro x τ v5 hx hs hq
    have hrt := RW_other hR hs (by omega)
    have e13 : ga τ 72 13 = (N : Int) := (hrt 13 (by omega) (by omega)).trans hN
    have ex : x = N ^ mn := by omega
    subst ex
    simp (disch := first | with_reducible assumption | omega | exact ga_in _ _ _ | exact gg_in _ _ _ | (unfold InR; omega) | (unfold InL; omega) | (simp only [shC_71, shC_72, shC_73, shC_74, shC_75, shC_76, shC_77, shC_78, shC_79, shL_72, shL_73, shL_74, shL_75, shL_76, shL_77, shL_78, shL_79]; first | done | omega)) only [q169_28, q169_30, q169_31, q169_34, q169_36, q169_37, q169_38, q169_41, shC_71, shC_72, shC_73, shC_74, shC_75, shC_76, shC_77, shC_78, shC_79, shL_72, shL_73, shL_74, shL_75, shL_76, shL_77, shL_78, shL_79, shR_71_0, shR_71_1, shR_71_2, shR_71_3, shR_71_4, shR_71_5, shR_71_8, shR_71_15, c221, e13, k167 (V := N) (N := mn) (by omega) hm, Int.le_refl, pushR_I, pushR_L, pushR_R, pushR_V, InR_gg, InR_ga, InR_wr, InL_gl, InR_b, b01, b01_0, if_true, if_false, not_true_eq_false, not_false_eq_true, and_true, true_and, and_self, Sum.inl.injEq, one0, Bool.false_eq_true]
    exact hq τ v5 hs
  | succ n ih =>
    intro x τ v5 hx hs hq
    have hrt := RW_other hR hs (by omega)
    have e13 : ga τ 72 13 = (N : Int) := (hrt 13 (by omega) (by omega)).trans hN
    have e : ¬ ((N ^ mn : Nat) : Int) ≤ (x : Int) := by omega
    have hN0 : 0 < N ∨ mn = 0 := by
      by_cases q : N = 0
      · subst q
        by_cases r : mn = 0
        · exact Or.inr r
        · rw [Nat.zero_pow (by omega)] at hx
          omega
      · exact Or.inl (by omega)
    have hs1 : ONE 74 σ (asIt τ) := ONE_trans hs asIt_one
    have after : ∀ τ', ONE 74 σ τ' → ga τ' 74 (1 + o) = finH (tkN G o) (digs N mn x) (knG G) (G (1 + o)) → Wp none (d + 19) 169 80 [.inr (.inr (.inl 71)), .inl o, .inl kk, .inl (mn : Int), .inl (x : Int), .inl (mn : Int)] [] τ' Q := fun τ' ht eh => by
      have hrt' := RW_other hR ht (by omega)
      have bh : InR (finH (tkN G o) (digs N mn x) (knG G) (G (1 + o))) := by rw [← eh]; exact ga_in _ _ _
      simp only [fndN] at hq
      by_cases c : 20 ≤ finH (tkN G o) (digs N mn x) (knG G) (G (1 + o))
      · have c' : ¬ finH (tkN G o) (digs N mn x) (knG G) (G (1 + o)) < 20 := by omega
        have hq' := hq τ' v5 ht
        simp only [c, decide_true, if_true] at hq'
        unfold fewV at hq'
        simp only [digs_len] at hq'
        by_cases c1 : kk = -1
        · have c1' : ¬ 0 ≤ kk := by omega
          have c2 : ¬ (0 : Int) ≤ -1 := by omega
          rw [if_pos c1] at hq'
          simp (disch := first | with_reducible assumption | omega | exact ga_in _ _ _ | exact gg_in _ _ _ | (unfold InR; omega) | (unfold InL; omega) | (simp only [shC_71, shC_72, shC_73, shC_74, shC_75, shC_76, shC_77, shC_78, shC_79, shL_72, shL_73, shL_74, shL_75, shL_76, shL_77, shL_78, shL_79]; first | done | omega)) only [q169_80, q169_81, q169_84, q169_85, q169_86, q169_87, q169_88, q169_90, q169_93, q169_94, q169_97, q169_98, q169_101, q169_102, q169_103, q169_106, q169_107, q169_109, q169_110, q169_111, q169_114, q169_117, q169_119, q169_120, shC_71, shC_72, shC_73, shC_74, shC_75, shC_76, shC_77, shC_78, shC_79, shL_72, shL_73, shL_74, shL_75, shL_76, shL_77, shL_78, shL_79, shR_71_0, shR_71_1, shR_71_2, shR_71_3, shR_71_4, shR_71_5, shR_71_8, shR_71_15, c221, eh, c', c1, c2, pushR_I, pushR_L, pushR_R, pushR_V, InR_gg, InR_ga, InR_wr, InL_gl, InR_b, b01, b01_0, if_true, if_false, not_true_eq_false, not_false_eq_true, and_true, true_and, and_self, Sum.inl.injEq, one0, Bool.false_eq_true]
          exact hq'
        · have c1' : 0 ≤ kk := by omega
          rw [if_neg c1] at hq'
          by_cases c3 : kk < (mn : Int)
          · have c3' : ¬ (mn : Int) ≤ kk := by omega
            have hN1 : 0 < N := by rcases hN0 with q | q; exact q; omega
            rw [if_pos c3, digs_get _ _ _ (by omega)] at hq'
            have hlt : x / N ^ (mn - 1 - kk.toNat) % N < N := Nat.mod_lt _ hN1
            have K1 : ∀ K, CalK (d + 19) 168 [.inr (.inr (.inl 71)), .inl (x : Int), .inl (mn : Int), .inl kk] τ' K = K (.inl ((x / N ^ (mn - 1 - kk.toNat) % N : Nat) : Int)) τ' := fun K => by
              have := k168 (d := d + 17) (K := K) hrt' hN ⟨hN1, hN7⟩ (x := x) (mn := mn) (k := kk.toNat) hm (by omega) (by omega)
              rw [show ((kk.toNat : Nat) : Int) = kk by omega] at this
              exact this
            simp (disch := first | with_reducible assumption | omega | exact ga_in _ _ _ | exact gg_in _ _ _ | (unfold InR; omega) | (unfold InL; omega) | (simp only [shC_71, shC_72, shC_73, shC_74, shC_75, shC_76, shC_77, shC_78, shC_79, shL_72, shL_73, shL_74, shL_75, shL_76, shL_77, shL_78, shL_79]; first | done | omega)) only [q169_80, q169_81, q169_84, q169_85, q169_86, q169_87, q169_88, q169_90, q169_93, q169_94, q169_97, q169_98, q169_101, q169_102, q169_103, q169_106, q169_107, q169_109, q169_110, q169_111, q169_114, q169_117, q169_119, q169_120, shC_71, shC_72, shC_73, shC_74, shC_75, shC_76, shC_77, shC_78, shC_79, shL_72, shL_73, shL_74, shL_75, shL_76, shL_77, shL_78, shL_79, shR_71_0, shR_71_1, shR_71_2, shR_71_3, shR_71_4, shR_71_5, shR_71_8, shR_71_15, c221, eh, c', c1', c3', K1, pushR_I, pushR_L, pushR_R, pushR_V, InR_gg, InR_ga, InR_wr, InL_gl, InR_b, b01, b01_0, if_true, if_false, not_true_eq_false, not_false_eq_true, and_true, true_and, and_self, Sum.inl.injEq, one0, Bool.false_eq_true]
            exact hq'
          · have c3' : (mn : Int) ≤ kk := by omega
            rw [if_neg c3] at hq'
            simp (disch := first | with_reducible assumption | omega | exact ga_in _ _ _ | exact gg_in _ _ _ | (unfold InR; omega) | (unfold InL; omega) | (simp only [shC_71, shC_72, shC_73, shC_74, shC_75, shC_76, shC_77, shC_78, shC_79, shL_72, shL_73, shL_74, shL_75, shL_76, shL_77, shL_78, shL_79]; first | done | omega)) only [q169_80, q169_81, q169_84, q169_85, q169_86, q169_87, q169_88, q169_90, q169_93, q169_94, q169_97, q169_98, q169_101, q169_102, q169_103, q169_106, q169_107, q169_109, q169_110, q169_111, q169_114, q169_117, q169_119, q169_120, shC_71, shC_72, shC_73, shC_74, shC_75, shC_76, shC_77, shC_78, shC_79, shL_72, shL_73, shL_74, shL_75, shL_76, shL_77, shL_78, shL_79, shR_71_0, shR_71_1, shR_71_2, shR_71_3, shR_71_4, shR_71_5, shR_71_8, shR_71_15, c221, eh, c', c1', c3', pushR_I, pushR_L, pushR_R, pushR_V, InR_gg, InR_ga, InR_wr, InL_gl, InR_b, b01, b01_0, if_true, if_false, not_true_eq_false, not_false_eq_true, and_true, true_and, and_self, Sum.inl.injEq, one0, Bool.false_eq_true]
            exact hq'
      · have c' : finH (tkN G o) (digs N mn x) (knG G) (G (1 + o)) < 20 := by omega
        simp (disch := first | with_reducible assumption | omega | exact ga_in _ _ _ | exact gg_in _ _ _ | (unfold InR; omega) | (unfold InL; omega) | (simp only [shC_71, shC_72, shC_73, shC_74, shC_75, shC_76, shC_77, shC_78, shC_79, shL_72, shL_73, shL_74, shL_75, shL_76, shL_77, shL_78, shL_79]; first | done | omega)) only [q169_80, q169_81, q169_84, q169_85, q169_86, q169_87, q169_88, q169_90, q169_93, q169_94, q169_97, q169_98, q169_101, q169_102, q169_103, q169_106, q169_107, q169_109, q169_110, q169_111, q169_114, q169_117, q169_119, q169_120, shC_71, shC_72, shC_73, shC_74, shC_75, shC_76, shC_77, shC_78, shC_79, shL_72, shL_73, shL_74, shL_75, shL_76, shL_77, shL_78, shL_79, shR_71_0, shR_71_1, shR_71_2, shR_71_3, shR_71_4, shR_71_5, shR_71_8, shR_71_15, c221, eh, c', pushR_I, pushR_L, pushR_R, pushR_V, InR_gg, InR_ga, InR_wr, InL_gl, InR_b, b01, b01_0, if_true, if_false, not_true_eq_false, not_false_eq_true, and_true, true_and, and_self, Sum.inl.injEq, one0, Bool.false_eq_true]
        rw [q169_123]
        refine ih (x + 1) τ' _ (by omega) ht (fun τ2 v ht2 => ?_)
        have := hq τ2 v ht2
        simp only [c, decide_false, Bool.false_eq_true, if_false] at this
        exact this
    simp (disch := first | with_reducible assumption | omega | exact ga_in _ _ _ | exact gg_in _ _ _ | (unfold InR; omega) | (unfold InL; omega) | (simp only [shC_71, shC_72, shC_73, shC_74, shC_75, shC_76, shC_77, shC_78, shC_79, shL_72, shL_73, shL_74, shL_75, shL_76, shL_77, shL_78, shL_79]; first | done | omega)) only [q169_28, q169_30, q169_31, q169_34, q169_36, q169_37, q169_38, q169_41, q169_44, q169_45, q169_48, q169_49, shC_71, shC_72, shC_73, shC_74, shC_75, shC_76, shC_77, shC_78, shC_79, shL_72, shL_73, shL_74, shL_75, shL_76, shL_77, shL_78, shL_79, shR_71_0, shR_71_1, shR_71_2, shR_71_3, shR_71_4, shR_71_5, shR_71_8, shR_71_15, c221, e13, k167 (V := N) (N := mn) (by omega) hm, e, k137, pushR_I, pushR_L, pushR_R, pushR_V, InR_gg, InR_ga, InR_wr, InL_gl, InR_b, b01, b01_0, if_true, if_false, not_true_eq_false, not_false_eq_true, and_true, true_and, and_self, Sum.inl.injEq, one0, Bool.false_eq_true]
    rcases hN0 with hN1 | hm0
    · refine l169s (d := d) (σ := σ) (Q := Q) hR hG ho hN ⟨hN1, hN7⟩ hm (by omega) mn 0 G (asIt τ) (by omega) (RW_asIt hrt) hG ⟨rfl, rfl⟩ hs1 (fun τ' ht eh => after τ' ht ?_)
      rw [eh, sayL_fin (by omega) _ _ (fun l hl => by have := digs_lt hN1 mn x l hl; omega)]
    · have e0 : (mn : Int) ≤ 0 := by omega
      have e0' : (0 : Int) = (mn : Int) := by omega
      have hra := RW_asIt hrt
      simp (disch := first | with_reducible assumption | omega | exact ga_in _ _ _ | exact gg_in _ _ _ | (unfold InR; omega) | (unfold InL; omega) | (simp only [shC_71, shC_72, shC_73, shC_74, shC_75, shC_76, shC_77, shC_78, shC_79, shL_72, shL_73, shL_74, shL_75, shL_76, shL_77, shL_78, shL_79]; first | done | omega)) only [q169_51, q169_53, q169_54, e0, pushR_I, pushR_L, pushR_R, pushR_V, InR_gg, InR_ga, InR_wr, InL_gl, InR_b, b01, b01_0, if_true, if_false, not_true_eq_false, not_false_eq_true, and_true, true_and, and_self, Sum.inl.injEq, one0, Bool.false_eq_true]
      rw [e0']
      refine after (asIt τ) hs1 ?_
      rw [hra (1 + o) (by omega) (by omega), hm0]
      rfl
theorem l169m {G : Int → Int} (hR : RW σ 72 221 G) (hG : GOK G) {o kk : Int} (ho : 0 ≤ o ∧ o < G 28) (hk : InR kk) (hk1 : -1 ≤ kk) {N : Nat} (hN : G 13 = (N : Int)) (hN7 : N ≤ 7) : ∀ (n mn : Nat) (τ : SG) (v4 v5 : AV), mn + n = 6 → ONE 74 σ τ →
    (∀ τ', ONE 74 σ τ' → Q (.inl (fewV (fewA (fun m => dfsF N (tkN G o) m (knG G) (G (1 + o))) n mn) kk)) τ') →
    Wp none (d + 19) 169 20 [.inr (.inr (.inl 71)), .inl o, .inl kk, .inl (mn : Int), v4, v5] [] τ Q := by
  intro n
  induction n with
  | zero =>
    intro mn τ v4 v5 hm hs hq
    have e : (5 : Int) < (mn : Int) := by omega
    simp (disch := first | with_reducible assumption | omega | exact ga_in _ _ _ | exact gg_in _ _ _ | (unfold InR; omega) | (unfold InL; omega) | (simp only [shC_71, shC_72, shC_73, shC_74, shC_75, shC_76, shC_77, shC_78, shC_79, shL_72, shL_73, shL_74, shL_75, shL_76, shL_77, shL_78, shL_79]; first | done | omega)) only [q169_20, q169_21, q169_22, q169_132, q169_134, e, pushR_I, pushR_L, pushR_R, pushR_V, InR_gg, InR_ga, InR_wr, InL_gl, InR_b, b01, b01_0, if_true, if_false, not_true_eq_false, not_false_eq_true, and_true, true_and, and_self, Sum.inl.injEq, one0, Bool.false_eq_true]
    exact hq τ hs
  | succ n ih =>
    intro mn τ v4 v5 hm hs hq
    have e : ¬ (5 : Int) < (mn : Int) := by omega
    simp only [fewA] at hq
    rw [dfs_num] at hq
    simp (disch := first | with_reducible assumption | omega | exact ga_in _ _ _ | exact gg_in _ _ _ | (unfold InR; omega) | (unfold InL; omega) | (simp only [shC_71, shC_72, shC_73, shC_74, shC_75, shC_76, shC_77, shC_78, shC_79, shL_72, shL_73, shL_74, shL_75, shL_76, shL_77, shL_78, shL_79]; first | done | omega)) only [q169_20, q169_21, q169_22, q169_25, q169_26, e, pushR_I, pushR_L, pushR_R, pushR_V, InR_gg, InR_ga, InR_wr, InL_gl, InR_b, b01, b01_0, if_true, if_false, not_true_eq_false, not_false_eq_true, and_true, true_and, and_self, Sum.inl.injEq, one0, Bool.false_eq_true]
    refine l169x (d := d) (σ := σ) (Q := Q) hR hG ho hk hk1 hN hN7 (mn := mn) (by omega) (N ^ mn) 0 τ _ (by omega) hs (fun τ' v ht => ?_)
    cases hf : fndN (fun x => decide (20 ≤ finH (tkN G o) (digs N mn x) (knG G) (G (1 + o)))) (N ^ mn) 0 with
    | none =>
      rw [hf] at hq
      simp only [Option.map_none] at hq
      simp (disch := first | with_reducible assumption | omega | exact ga_in _ _ _ | exact gg_in _ _ _ | (unfold InR; omega) | (unfold InL; omega) | (simp only [shC_71, shC_72, shC_73, shC_74, shC_75, shC_76, shC_77, shC_78, shC_79, shL_72, shL_73, shL_74, shL_75, shL_76, shL_77, shL_78, shL_79]; first | done | omega)) only [q169_126, pushR_I, pushR_L, pushR_R, pushR_V, InR_gg, InR_ga, InR_wr, InL_gl, InR_b, b01, b01_0, if_true, if_false, not_true_eq_false, not_false_eq_true, and_true, true_and, and_self, Sum.inl.injEq, one0, Bool.false_eq_true]
      rw [q169_129]
      exact ih (mn + 1) τ' _ _ (by omega) ht hq
    | some y =>
      rw [hf] at hq
      simp only [Option.map_some] at hq
      exact hq τ' ht
theorem o169 (h : MR σ S) (hS : SOK S) {o k : Int} (ho : InR o) (hk : InR k) : CalE (d + 20) 169 [.inr (.inr (.inl 71)), .inl o, .inl k] σ (OPM σ (fFew S o k)) := by
  have hO := MOKn h.1 (by omega) hS.1
  have e28 : ga σ 72 28 = S 0 28 := h.1 28 (by omega) (by omega)
  have g13 := hS.1.1
  refine Cal_ex (ls := [.inr (.inr (.inl 71)), .inl o, .inl k, aU, aU, aU]) rfl mna_169 mml_169 mhl_169 rfl rfl ?_
  unfold fFew
  by_cases h1 : 0 ≤ o ∧ o < ga σ 72 28
  · have h1' : 0 ≤ o ∧ o < S 0 28 := by omega
    by_cases h2 : -1 ≤ k
    · rw [if_pos ⟨h1', h2⟩]
      simp (disch := first | with_reducible assumption | omega | exact ga_in _ _ _ | exact gg_in _ _ _ | (unfold InR; omega) | (unfold InL; omega) | (simp only [shC_71, shC_72, shC_73, shC_74, shC_75, shC_76, shC_77, shC_78, shC_79, shL_72, shL_73, shL_74, shL_75, shL_76, shL_77, shL_78, shL_79]; first | done | omega)) only [q169_0, q169_1, q169_2, q169_5, q169_8, q169_9, q169_10, q169_13, q169_14, q169_17, q169_18, q169_19, shC_71, shC_72, shC_73, shC_74, shC_75, shC_76, shC_77, shC_78, shC_79, shL_72, shL_73, shL_74, shL_75, shL_76, shL_77, shL_78, shL_79, shR_71_0, shR_71_1, shR_71_2, shR_71_3, shR_71_4, shR_71_5, shR_71_8, shR_71_15, k123 hO.2.1, h1, h2, pushR_I, pushR_L, pushR_R, pushR_V, InR_gg, InR_ga, InR_wr, InL_gl, InR_b, b01, b01_0, if_true, if_false, not_true_eq_false, not_false_eq_true, and_true, true_and, and_self, Sum.inl.injEq, one0, Bool.false_eq_true]
      exact l169m (d := d) (σ := σ) h.1 hS.1 h1' hk h2 (N := (S 0 13).toNat) (by omega) (by omega) 6 0 σ _ _ (by omega) (ONE_refl _ _) (fun τ' ht => MO_74 h ht)
    · rw [if_neg (fun q => h2 q.2)]
      simp (disch := first | with_reducible assumption | omega | exact ga_in _ _ _ | exact gg_in _ _ _ | (unfold InR; omega) | (unfold InL; omega) | (simp only [shC_71, shC_72, shC_73, shC_74, shC_75, shC_76, shC_77, shC_78, shC_79, shL_72, shL_73, shL_74, shL_75, shL_76, shL_77, shL_78, shL_79]; first | done | omega)) only [q169_0, q169_1, q169_2, q169_5, q169_8, q169_9, q169_10, q169_13, q169_14, q169_17, q169_18, q169_19, shC_71, shC_72, shC_73, shC_74, shC_75, shC_76, shC_77, shC_78, shC_79, shL_72, shL_73, shL_74, shL_75, shL_76, shL_77, shL_78, shL_79, shR_71_0, shR_71_1, shR_71_2, shR_71_3, shR_71_4, shR_71_5, shR_71_8, shR_71_15, k123 hO.2.1, h1, h2, k121, pushR_I, pushR_L, pushR_R, pushR_V, InR_gg, InR_ga, InR_wr, InL_gl, InR_b, b01, b01_0, if_true, if_false, not_true_eq_false, not_false_eq_true, and_true, true_and, and_self, Sum.inl.injEq, one0, Bool.false_eq_true]
      exact MO_badT h
  · rw [if_neg (fun q => h1 (by have := q.1; unfold hasO at this; omega))]
    simp (disch := first | with_reducible assumption | omega | exact ga_in _ _ _ | exact gg_in _ _ _ | (unfold InR; omega) | (unfold InL; omega) | (simp only [shC_71, shC_72, shC_73, shC_74, shC_75, shC_76, shC_77, shC_78, shC_79, shL_72, shL_73, shL_74, shL_75, shL_76, shL_77, shL_78, shL_79]; first | done | omega)) only [q169_0, q169_1, q169_2, q169_5, q169_8, q169_9, q169_10, q169_13, q169_14, q169_17, q169_18, q169_19, shC_71, shC_72, shC_73, shC_74, shC_75, shC_76, shC_77, shC_78, shC_79, shL_72, shL_73, shL_74, shL_75, shL_76, shL_77, shL_78, shL_79, shR_71_0, shR_71_1, shR_71_2, shR_71_3, shR_71_4, shR_71_5, shR_71_8, shR_71_15, k123 hO.2.1, h1, k121, pushR_I, pushR_L, pushR_R, pushR_V, InR_gg, InR_ga, InR_wr, InL_gl, InR_b, b01, b01_0, if_true, if_false, not_true_eq_false, not_false_eq_true, and_true, true_and, and_self, Sum.inl.injEq, one0, Bool.false_eq_true]
    exact MO_badT h
end MFEW
