-- loops that write a row, sums; a town's methods
theorem gg_in (σ : SG) (k j : Nat) : InR (gg σ k j) := n32_in _
theorem ga_in (σ : SG) (k : Nat) (i : Int) : InR (ga σ k i) := n32_in _
theorem wp_if {X : XS} {d y pc : Nat} {ls st : List AV} {σ : SG} {Q : AV → SG → Prop} {c : Prop} [Decidable c] {a b : Int} : (if c then Wp X d y pc ls (.inl a :: st) σ Q else Wp X d y pc ls (.inl b :: st) σ Q) = Wp X d y pc ls (.inl (if c then a else b) :: st) σ Q := by split <;> rfl
theorem SG_ext {σ τ : SG} (h1 : ∀ a b, σ.1 a b = τ.1 a b) (h2 : σ.2 = τ.2) : σ = τ := by
  cases σ; cases τ
  simp only [Prod.mk.injEq]
  exact ⟨funext fun a => funext fun b => h1 a b, h2⟩
/-- the cells b .. b + n - 1 of the row c become g 0 .. g (n - 1) -/
def mR (σ : SG) (c b n : Nat) (g : Nat → Int) : SG := (fun a x => if a = c then (if b ≤ x ∧ x < b + n then Int32.ofInt (g (x - b)) else σ.1 a x) else σ.1 a x, σ.2)
theorem mR_0 (σ : SG) (c b : Nat) (g : Nat → Int) : mR σ c b 0 g = σ := by
  refine SG_ext (fun a x => ?_) rfl
  unfold mR
  dsimp only
  split
  · rw [if_neg (by omega)]
  · rfl
theorem mR_step (σ : SG) {c b i : Nat} {g : Nat → Int} {x v : Int} (hx : x = (b : Int) + (i : Int)) (hv : v = g i) : ua (mR σ c b i g) c x v = mR σ c b (i + 1) g := by
  subst hx; subst hv
  have e : ((b : Int) + (i : Int)).toNat = b + i := by omega
  refine SG_ext (fun a x => ?_) rfl
  unfold ua ug mR
  dsimp only
  rw [e]
  by_cases h1 : a = c
  · simp only [h1, if_true]
    by_cases h2 : x = b + i
    · subst h2
      rw [if_pos rfl, if_pos (by omega), show b + i - b = i by omega]
    · rw [if_neg h2]
      by_cases h3 : b ≤ x ∧ x < b + i
      · rw [if_pos h3, if_pos (by omega)]
      · rw [if_neg h3, if_neg (by omega)]
  · simp only [h1, if_false]
theorem gg_mR (σ : SG) (c b n : Nat) (g : Nat → Int) (a x : Nat) : gg (mR σ c b n g) a x = if a = c then (if b ≤ x ∧ x < b + n then wr (g (x - b)) else gg σ a x) else gg σ a x := by
  unfold gg mR wr
  dsimp only
  split
  · split <;> rfl
  · rfl
theorem ga_mR (σ : SG) (c b n : Nat) (g : Nat → Int) (a : Nat) {x : Int} (hx : 0 ≤ x) : ga (mR σ c b n g) a x = if a = c then (if (b : Int) ≤ x ∧ x < (b : Int) + (n : Int) then wr (g (x.toNat - b)) else ga σ a x) else ga σ a x := by
  unfold ga
  rw [gg_mR]
  split
  · by_cases h : (b : Int) ≤ x ∧ x < (b : Int) + (n : Int)
    · rw [if_pos h, if_pos (by omega)]
    · rw [if_neg h, if_neg (by omega)]
  · rfl
theorem ga_mR_ne (σ : SG) {c b n : Nat} {g : Nat → Int} {a : Nat} {x : Int} (h : ¬ a = c) : ga (mR σ c b n g) a x = ga σ a x := by
  unfold ga
  rw [gg_mR, if_neg h]
theorem gl_mR (σ : SG) (c b n : Nat) (g : Nat → Int) (a x : Nat) : gl (mR σ c b n g) a x = gl σ a x := rfl
/-- the sum of f i .. f (i + n - 1) -/
def sumF (f : Nat → Int) : Nat → Nat → Int
  | _, 0 => 0
  | i, n + 1 => f i + sumF f (i + 1) n
theorem sumF_congr {f g : Nat → Int} : ∀ (n i : Nat), (∀ j, i ≤ j → j < i + n → f j = g j) → sumF f i n = sumF g i n := by
  intro n
  induction n with
  | zero => intro i h; rfl
  | succ n ih => intro i h; simp only [sumF]; rw [h i (by omega) (by omega), ih (i + 1) (fun j h1 h2 => h j (by omega) (by omega))]
def isT (t : Nat) : Prop := t = 1 ∨ t = 15 ∨ t = 30 ∨ t = 44
theorem isT_f {t : Nat} (h : isT t) : shC t = 5 ∧ shR t 3 = t + 1 ∧ shR t 4 = t + 2 ∧ shR t 5 = t + 3 ∧ shR t 6 = t + 4 ∧ shR t 7 = t + 5 ∧ shR t 8 = t + 6 ∧ shR t 9 = t + 8 ∧ shR t 10 = t + 10 ∧ shR t 11 = t + 12 := by
  rcases h with rfl | rfl | rfl | rfl <;> decide +kernel
theorem isT_a {t : Nat} (h : isT t) : (shC (t + 1) = 100 ∧ shC (t + 2) = 100 ∧ shC (t + 3) = 100 ∧ shC (t + 4) = 100 ∧ shC (t + 5) = 100) ∧ (shL (t + 1) = 7 ∧ shL (t + 2) = 7 ∧ shL (t + 3) = 7 ∧ shL (t + 4) = 5 ∧ shL (t + 5) = 5) := by
  rcases h with rfl | rfl | rfl | rfl <;> decide +kernel
theorem isT_t {t : Nat} (h : isT t) : (shC (t + 6) = 4 ∧ shC (t + 8) = 4 ∧ shC (t + 10) = 4 ∧ shC (t + 12) = 1) ∧ (shR (t + 6) 2 = t + 7 ∧ shR (t + 8) 2 = t + 9 ∧ shR (t + 10) 2 = t + 11 ∧ shR (t + 12) 0 = t + 13) ∧ (shC (t + 7) = 100 ∧ shC (t + 9) = 100 ∧ shC (t + 11) = 100 ∧ shC (t + 13) = 100) ∧ (shL (t + 7) = 25 ∧ shL (t + 9) = 30 ∧ shL (t + 11) = 24 ∧ shL (t + 13) = 104) := by
  rcases h with rfl | rfl | rfl | rfl <;> decide +kernel
/-- what a town's numbers keep to -/
def TOK (σ : SG) (t : Nat) : Prop := (0 ≤ gg σ t 0 ∧ gg σ t 0 ≤ 7) ∧ (0 ≤ gg σ t 1 ∧ gg σ t 1 ≤ 5) ∧ (0 ≤ gg σ t 2 ∧ gg σ t 2 ≤ 100000) ∧
  (∀ l : Int, 0 ≤ l → l < gg σ t 0 → (0 ≤ ga σ (t + 1) l ∧ ga σ (t + 1) l ≤ 5) ∧ (1 ≤ ga σ (t + 2) l ∧ ga σ (t + 2) l ≤ 9) ∧ (0 ≤ ga σ (t + 3) l ∧ ga σ (t + 3) l ≤ 9)) ∧
  (∀ o : Int, 0 ≤ o → o < gg σ t 1 → (0 ≤ ga σ (t + 4) o ∧ ga σ (t + 4) o ≤ 5) ∧ (0 ≤ ga σ (t + 5) o ∧ ga σ (t + 5) o ≤ 99))
def ltT (σ : SG) (t : Nat) (l k : Int) : Int := ltI (ga σ (t + 1) l) (ga σ (t + 2) l) k (gg σ t 2)
def tkT (σ : SG) (t : Nat) (o l : Int) : Int := tkI (ga σ (t + 4) o) (ltT σ t l (ga σ (t + 3) l)) (ga σ (t + 5) o)
def sayT (σ : SG) (t : Nat) (l o : Int) : SG := ua (ua σ (t + 5) o (heI (ga σ (t + 5) o) (tkT σ t o l))) (t + 3) l (kn1 (ga σ (t + 3) l))
def dayT (σ : SG) (t : Nat) : SG := ug (mR σ (t + 5) 0 (gg σ t 1).toNat (fun j => coI (ga σ (t + 5) j) 1)) t 2 (gg σ t 2 + 1)
def hotF (σ : SG) (c : Nat) (b : Int) (j : Nat) : Int := if 20 ≤ ga σ c (b + j) then 1 else 0
theorem ltI_b {kind u k x : Int} (hu : 0 ≤ u ∧ u ≤ 1000) (hk : 0 ≤ k ∧ k ≤ 1000) : 0 ≤ ltI kind u k x ∧ ltI kind u k x ≤ 4008 := by
  have h1 := plI_b hu hk
  have h2 := fiI_b hu hk
  unfold ltI
  repeat' split
  all_goals omega
section TOWN
variable {d : Nat} {σ : SG} {K : AV → SG → Prop} {Q : AV → SG → Prop} {t : Nat}
theorem m34 (hT : isT t) {l : Int} (hl : InR l) : Cal (d + 1) 34 [.inr (.inr (.inl t)), .inl l] σ (.inl (if 0 ≤ l ∧ l < gg σ t 0 then 1 else 0)) σ := by
  obtain ⟨f0, f3, f4, f5, f6, f7, f8, f9, f10, f11⟩ := isT_f hT
  refine Cal_in (ls := [.inr (.inr (.inl t)), .inl l]) rfl mna_34 mml_34 mhl_34 rfl rfl ?_
  by_cases h0 : l < 0
  · have e : ¬ (0 ≤ l ∧ l < gg σ t 0) := by omega
    simp (disch := first | with_reducible assumption | omega | exact ga_in _ _ _ | exact gg_in _ _ _ | (unfold InR; omega) | (unfold InL; omega)) only [q34_0, q34_1, q34_4, q34_5, q34_6, q34_9, q34_12, q34_13, q34_16, q34_17, f0, h0, e, pushR_I, pushR_L, pushR_R, pushR_V, InR_gg, InR_ga, InR_wr, InL_gl, InR_b, b01, b01_0, if_true, if_false, not_true_eq_false, not_false_eq_true, and_true, true_and, and_self, Sum.inl.injEq]
  · by_cases h1 : gg σ t 0 ≤ l
    · have e : ¬ (0 ≤ l ∧ l < gg σ t 0) := by omega
      simp (disch := first | with_reducible assumption | omega | exact ga_in _ _ _ | exact gg_in _ _ _ | (unfold InR; omega) | (unfold InL; omega)) only [q34_0, q34_1, q34_4, q34_5, q34_6, q34_9, q34_12, q34_13, q34_16, q34_17, f0, h0, h1, e, pushR_I, pushR_L, pushR_R, pushR_V, InR_gg, InR_ga, InR_wr, InL_gl, InR_b, b01, b01_0, if_true, if_false, not_true_eq_false, not_false_eq_true, and_true, true_and, and_self, Sum.inl.injEq]
    · have e : (0 ≤ l ∧ l < gg σ t 0) := by omega
      simp (disch := first | with_reducible assumption | omega | exact ga_in _ _ _ | exact gg_in _ _ _ | (unfold InR; omega) | (unfold InL; omega)) only [q34_0, q34_1, q34_4, q34_5, q34_6, q34_9, q34_12, q34_13, q34_16, q34_17, f0, h0, h1, e, pushR_I, pushR_L, pushR_R, pushR_V, InR_gg, InR_ga, InR_wr, InL_gl, InR_b, b01, b01_0, if_true, if_false, not_true_eq_false, not_false_eq_true, and_true, true_and, and_self, Sum.inl.injEq]
theorem k34 (hT : isT t) {l : Int} (hl : InR l) : CalK (d + 1) 34 [.inr (.inr (.inl t)), .inl l] σ K = K (.inl (if 0 ≤ l ∧ l < gg σ t 0 then 1 else 0)) σ := CalK_eq (m34 hT hl)
theorem m35 (hT : isT t) {l : Int} (hl : InR l) : Cal (d + 1) 35 [.inr (.inr (.inl t)), .inl l] σ (.inl (if 0 ≤ l ∧ l < gg σ t 1 then 1 else 0)) σ := by
  obtain ⟨f0, f3, f4, f5, f6, f7, f8, f9, f10, f11⟩ := isT_f hT
  refine Cal_in (ls := [.inr (.inr (.inl t)), .inl l]) rfl mna_35 mml_35 mhl_35 rfl rfl ?_
  by_cases h0 : l < 0
  · have e : ¬ (0 ≤ l ∧ l < gg σ t 1) := by omega
    simp (disch := first | with_reducible assumption | omega | exact ga_in _ _ _ | exact gg_in _ _ _ | (unfold InR; omega) | (unfold InL; omega)) only [q35_0, q35_1, q35_4, q35_5, q35_6, q35_9, q35_12, q35_13, q35_16, q35_17, f0, h0, e, pushR_I, pushR_L, pushR_R, pushR_V, InR_gg, InR_ga, InR_wr, InL_gl, InR_b, b01, b01_0, if_true, if_false, not_true_eq_false, not_false_eq_true, and_true, true_and, and_self, Sum.inl.injEq]
  · by_cases h1 : gg σ t 1 ≤ l
    · have e : ¬ (0 ≤ l ∧ l < gg σ t 1) := by omega
      simp (disch := first | with_reducible assumption | omega | exact ga_in _ _ _ | exact gg_in _ _ _ | (unfold InR; omega) | (unfold InL; omega)) only [q35_0, q35_1, q35_4, q35_5, q35_6, q35_9, q35_12, q35_13, q35_16, q35_17, f0, h0, h1, e, pushR_I, pushR_L, pushR_R, pushR_V, InR_gg, InR_ga, InR_wr, InL_gl, InR_b, b01, b01_0, if_true, if_false, not_true_eq_false, not_false_eq_true, and_true, true_and, and_self, Sum.inl.injEq]
    · have e : (0 ≤ l ∧ l < gg σ t 1) := by omega
      simp (disch := first | with_reducible assumption | omega | exact ga_in _ _ _ | exact gg_in _ _ _ | (unfold InR; omega) | (unfold InL; omega)) only [q35_0, q35_1, q35_4, q35_5, q35_6, q35_9, q35_12, q35_13, q35_16, q35_17, f0, h0, h1, e, pushR_I, pushR_L, pushR_R, pushR_V, InR_gg, InR_ga, InR_wr, InL_gl, InR_b, b01, b01_0, if_true, if_false, not_true_eq_false, not_false_eq_true, and_true, true_and, and_self, Sum.inl.injEq]
theorem k35 (hT : isT t) {l : Int} (hl : InR l) : CalK (d + 1) 35 [.inr (.inr (.inl t)), .inl l] σ K = K (.inl (if 0 ≤ l ∧ l < gg σ t 1 then 1 else 0)) σ := CalK_eq (m35 hT hl)
theorem m38 (hT : isT t) (hO : TOK σ t) {l k : Int} (hl : 0 ≤ l ∧ l < gg σ t 0) (hk : 0 ≤ k ∧ k ≤ 1000) : Cal (d + 2) 38 [.inr (.inr (.inl t)), .inl l, .inl k] σ (.inl (ltT σ t l k)) σ := by
  obtain ⟨f0, f3, f4, f5, f6, f7, f8, f9, f10, f11⟩ := isT_f hT
  obtain ⟨⟨a1, a2, a3, a4, a5⟩, l1, l2, l3, l4, l5⟩ := isT_a hT
  obtain ⟨o1, o2, o3, o4, o5⟩ := hO
  obtain ⟨b1, b2, b3⟩ := o4 l hl.1 hl.2
  refine Cal_in (ls := [.inr (.inr (.inl t)), .inl l, .inl k]) rfl mna_38 mml_38 mhl_38 rfl rfl ?_
  simp (disch := first | with_reducible assumption | omega | exact ga_in _ _ _ | exact gg_in _ _ _ | (unfold InR; omega) | (unfold InL; omega)) only [q38_0, q38_1, q38_4, q38_5, q38_8, q38_9, q38_12, q38_13, q38_16, q38_17, q38_18, q38_21, q38_24, f0, f3, f4, k89, k94, pushR_I, pushR_L, pushR_R, pushR_V, InR_gg, InR_ga, InR_wr, InL_gl, InR_b, b01, b01_0, if_true, if_false, not_true_eq_false, not_false_eq_true, and_true, true_and, and_self, Sum.inl.injEq]
  all_goals (first | rfl | exact ⟨rfl, rfl⟩ | exact ⟨trivial, trivial⟩)
theorem k38 (hT : isT t) (hO : TOK σ t) {l k : Int} (hl : 0 ≤ l ∧ l < gg σ t 0) (hk : 0 ≤ k ∧ k ≤ 1000) : CalK (d + 2) 38 [.inr (.inr (.inl t)), .inl l, .inl k] σ K = K (.inl (ltT σ t l k)) σ := CalK_eq (m38 hT hO hl hk)
theorem m39 (hT : isT t) (hO : TOK σ t) {l o : Int} (hl : 0 ≤ l ∧ l < gg σ t 0) (ho : 0 ≤ o ∧ o < gg σ t 1) : Cal (d + 2) 39 [.inr (.inr (.inl t)), .inl o, .inl l] σ (.inl (tkT σ t o l)) σ := by
  obtain ⟨f0, f3, f4, f5, f6, f7, f8, f9, f10, f11⟩ := isT_f hT
  obtain ⟨⟨a1, a2, a3, a4, a5⟩, l1, l2, l3, l4, l5⟩ := isT_a hT
  obtain ⟨o1, o2, o3, o4, o5⟩ := hO
  obtain ⟨b1, b2, b3⟩ := o4 l hl.1 hl.2
  obtain ⟨b4, b5⟩ := o5 o ho.1 ho.2
  have b6 := ltI_b (kind := ga σ (t + 1) l) (x := gg σ t 2) (u := ga σ (t + 2) l) (k := ga σ (t + 3) l) (by omega) (by omega)
  refine Cal_in (ls := [.inr (.inr (.inl t)), .inl o, .inl l, aU]) rfl mna_39 mml_39 mhl_39 rfl rfl ?_
  simp (disch := first | with_reducible assumption | omega | exact ga_in _ _ _ | exact gg_in _ _ _ | (unfold InR; omega) | (unfold InL; omega)) only [q39_0, q39_1, q39_4, q39_5, q39_8, q39_9, q39_12, q39_13, q39_16, q39_17, q39_20, q39_21, q39_24, q39_25, q39_28, q39_31, q39_32, q39_33, q39_36, q39_37, q39_40, q39_41, q39_42, q39_45, q39_46, q39_49, q39_52, f0, f3, f4, f5, f6, f7, k89, k94, k95, pushR_I, pushR_L, pushR_R, pushR_V, InR_gg, InR_ga, InR_wr, InL_gl, InR_b, b01, b01_0, if_true, if_false, not_true_eq_false, not_false_eq_true, and_true, true_and, and_self, Sum.inl.injEq]
  all_goals (first | rfl | exact ⟨rfl, rfl⟩ | exact ⟨trivial, trivial⟩)
theorem k39 (hT : isT t) (hO : TOK σ t) {l o : Int} (hl : 0 ≤ l ∧ l < gg σ t 0) (ho : 0 ≤ o ∧ o < gg σ t 1) : CalK (d + 2) 39 [.inr (.inr (.inl t)), .inl o, .inl l] σ K = K (.inl (tkT σ t o l)) σ := CalK_eq (m39 hT hO hl ho)
theorem heI_b {h m : Int} (h1 : 0 ≤ h ∧ h ≤ 99) (h2 : 0 ≤ m) : 0 ≤ heI h m ∧ heI h m ≤ 99 := by unfold heI; split <;> omega
theorem tkI_b {kind x h : Int} (hx : 0 ≤ x ∧ x ≤ 4008) (hh : 0 ≤ h ∧ h ≤ 99) : 0 ≤ tkI kind x h ∧ tkI kind x h ≤ 4013 := by
  have : 0 ≤ clI x ∧ clI x ≤ 12 := by unfold clI; split <;> omega
  unfold tkI
  repeat' split
  all_goals omega
theorem tkT_b (hO : TOK σ t) {l o : Int} (hl : 0 ≤ l ∧ l < gg σ t 0) (ho : 0 ≤ o ∧ o < gg σ t 1) : 0 ≤ tkT σ t o l ∧ tkT σ t o l ≤ 4013 := by
  obtain ⟨o1, o2, o3, o4, o5⟩ := hO
  obtain ⟨b1, b2, b3⟩ := o4 l hl.1 hl.2
  obtain ⟨b4, b5⟩ := o5 o ho.1 ho.2
  exact tkI_b (ltI_b (by omega) (by omega)) b5
theorem m40 (hT : isT t) (hO : TOK σ t) {l o : Int} (hl : 0 ≤ l ∧ l < gg σ t 0) (ho : 0 ≤ o ∧ o < gg σ t 1) : Cal (d + 3) 40 [.inr (.inr (.inl t)), .inl l, .inl o] σ aU (sayT σ t l o) := by
  obtain ⟨f0, f3, f4, f5, f6, f7, f8, f9, f10, f11⟩ := isT_f hT
  obtain ⟨⟨a1, a2, a3, a4, a5⟩, l1, l2, l3, l4, l5⟩ := isT_a hT
  have hb := tkT_b hO hl ho
  have hO' := hO
  obtain ⟨o1, o2, o3, o4, o5⟩ := hO
  obtain ⟨b1, b2, b3⟩ := o4 l hl.1 hl.2
  obtain ⟨b4, b5⟩ := o5 o ho.1 ho.2
  have e : ga (ua σ (t + 5) o (heI (ga σ (t + 5) o) (tkT σ t o l))) (t + 3) l = ga σ (t + 3) l := by
    rw [ga_ua _ _ _ _ _ _ ho.1 hl.1, if_neg (by omega)]
  refine Cal_in (ls := [.inr (.inr (.inl t)), .inl l, .inl o]) rfl mna_40 mml_40 mhl_40 rfl rfl ?_
  simp (disch := first | with_reducible assumption | omega | exact ga_in _ _ _ | exact gg_in _ _ _ | (unfold InR; omega) | (unfold InL; omega)) only [q40_0, q40_1, q40_4, q40_5, q40_6, q40_9, q40_10, q40_13, q40_14, q40_15, q40_16, q40_19, q40_22, q40_25, q40_26, q40_29, q40_30, q40_31, q40_34, q40_35, q40_38, q40_41, q40_44, f0, f5, f7, k89, k90, k39 hT hO' hl ho, k96, k99, e, pushR_I, pushR_L, pushR_R, pushR_V, InR_gg, InR_ga, InR_wr, InL_gl, InR_b, b01, b01_0, if_true, if_false, not_true_eq_false, not_false_eq_true, and_true, true_and, and_self, Sum.inl.injEq]
  all_goals (first | rfl | exact ⟨rfl, rfl⟩ | exact ⟨trivial, trivial⟩)
theorem k40 (hT : isT t) (hO : TOK σ t) {l o : Int} (hl : 0 ≤ l ∧ l < gg σ t 0) (ho : 0 ≤ o ∧ o < gg σ t 1) : CalK (d + 3) 40 [.inr (.inr (.inl t)), .inl l, .inl o] σ K = K aU (sayT σ t l o) := CalK_eq (m40 hT hO hl ho)
theorem l41 (hT : isT t) (h5 : gg σ t 1 ≤ 5) (h0 : 0 ≤ gg σ t 1) : ∀ (n i : Nat), (i : Int) + n = gg σ t 1 → Wp none (d + 1) 41 2 [.inr (.inr (.inl t)), .inl (i : Int)] [] (mR σ (t + 5) 0 i (fun j => coI (ga σ (t + 5) j) 1)) Q = Wp none (d + 1) 41 36 [.inr (.inr (.inl t)), .inl (gg σ t 1)] [] (mR σ (t + 5) 0 (gg σ t 1).toNat (fun j => coI (ga σ (t + 5) j) 1)) Q := by
  obtain ⟨f0, f3, f4, f5, f6, f7, f8, f9, f10, f11⟩ := isT_f hT
  obtain ⟨⟨a1, a2, a3, a4, a5⟩, l1, l2, l3, l4, l5⟩ := isT_a hT
  have eg : ∀ i, gg (mR σ (t + 5) 0 i (fun j => coI (ga σ (t + 5) j) 1)) t 1 = gg σ t 1 := fun i => by rw [gg_mR, if_neg (by omega)]
  intro n
  induction n with
  | zero =>
    intro i h
    have e : gg σ t 1 = (i : Int) := by omega
    simp (disch := first | with_reducible assumption | omega | exact ga_in _ _ _ | exact gg_in _ _ _ | (unfold InR; omega) | (unfold InL; omega)) only [q41_2, q41_3, q41_4, q41_7, eg, e, Int.le_refl, Int.toNat_natCast, pushR_I, pushR_L, pushR_R, pushR_V, InR_gg, InR_ga, InR_wr, InL_gl, InR_b, b01, b01_0, if_true, if_false, not_true_eq_false, not_false_eq_true, and_true, true_and, and_self, Sum.inl.injEq]
  | succ n ih =>
    intro i h
    have e : ¬ gg σ t 1 ≤ (i : Int) := by omega
    have er : ga (mR σ (t + 5) 0 i (fun j => coI (ga σ (t + 5) j) 1)) (t + 5) (i : Int) = ga σ (t + 5) (i : Int) := by
      rw [ga_mR _ _ _ _ _ _ (by omega), if_pos rfl, if_neg (by omega)]
    simp (disch := first | with_reducible assumption | omega | exact ga_in _ _ _ | exact gg_in _ _ _ | (unfold InR; omega) | (unfold InL; omega)) only [q41_2, q41_3, q41_4, q41_7, q41_10, q41_11, q41_14, q41_15, q41_16, q41_19, q41_20, q41_23, q41_24, q41_27, q41_30, eg, e, f7, k89, k97, k90, er, pushR_I, pushR_L, pushR_R, pushR_V, InR_gg, InR_ga, InR_wr, InL_gl, InR_b, b01, b01_0, if_true, if_false, not_true_eq_false, not_false_eq_true, and_true, true_and, and_self, Sum.inl.injEq]
    rw [q41_33, mR_step (b := 0) (i := i) (g := fun j => coI (ga σ (t + 5) j) 1) σ (by omega) rfl]
    exact ih (i + 1) (by omega)
theorem m41 (hT : isT t) (h5 : gg σ t 1 ≤ 5) (h0 : 0 ≤ gg σ t 1) : Cal (d + 2) 41 [.inr (.inr (.inl t))] σ aU (dayT σ t) := by
  obtain ⟨f0, f3, f4, f5, f6, f7, f8, f9, f10, f11⟩ := isT_f hT
  have eg : gg (mR σ (t + 5) 0 (gg σ t 1).toNat (fun j => coI (ga σ (t + 5) j) 1)) t 2 = gg σ t 2 := by rw [gg_mR, if_neg (by omega)]
  refine Cal_in (ls := [.inr (.inr (.inl t)), aU]) rfl mna_41 mml_41 mhl_41 rfl rfl ?_
  simp (disch := first | with_reducible assumption | omega | exact ga_in _ _ _ | exact gg_in _ _ _ | (unfold InR; omega) | (unfold InL; omega)) only [q41_0, q41_1, pushR_I, pushR_L, pushR_R, pushR_V, InR_gg, InR_ga, InR_wr, InL_gl, InR_b, b01, b01_0, if_true, if_false, not_true_eq_false, not_false_eq_true, and_true, true_and, and_self, Sum.inl.injEq]
  have h := l41 (d := d) (Q := fun r1 σ1 => r1 = aU ∧ σ1 = dayT σ t) hT h5 h0 (gg σ t 1).toNat 0 (by omega)
  rw [mR_0] at h
  refine h.mpr ?_
  simp (disch := first | with_reducible assumption | omega | exact ga_in _ _ _ | exact gg_in _ _ _ | (unfold InR; omega) | (unfold InL; omega)) only [q41_36, q41_37, q41_38, q41_41, q41_42, q41_43, q41_46, eg, pushR_I, pushR_L, pushR_R, pushR_V, InR_gg, InR_ga, InR_wr, InL_gl, InR_b, b01, b01_0, if_true, if_false, not_true_eq_false, not_false_eq_true, and_true, true_and, and_self, Sum.inl.injEq]
  all_goals (first | rfl | exact ⟨rfl, rfl⟩ | exact ⟨trivial, trivial⟩)
theorem k41 (hT : isT t) (h5 : gg σ t 1 ≤ 5) (h0 : 0 ≤ gg σ t 1) : CalK (d + 2) 41 [.inr (.inr (.inl t))] σ K = K aU (dayT σ t) := CalK_eq (m41 hT h5 h0)
theorem l43 (hT : isT t) (h5 : gg σ t 1 ≤ 5) : ∀ (n i : Nat) (acc : Int), (i : Int) + n = gg σ t 1 → Wp none (d + 1) 43 4 [.inr (.inr (.inl t)), .inl acc, .inl (i : Int)] [] σ Q = Wp none (d + 1) 43 32 [.inr (.inr (.inl t)), .inl (acc + sumF (hotF σ (t + 5) 0) i n), .inl (gg σ t 1)] [] σ Q := by
  obtain ⟨f0, f3, f4, f5, f6, f7, f8, f9, f10, f11⟩ := isT_f hT
  obtain ⟨⟨a1, a2, a3, a4, a5⟩, l1, l2, l3, l4, l5⟩ := isT_a hT
  intro n
  induction n with
  | zero =>
    intro i acc h
    have e : gg σ t 1 = (i : Int) := by omega
    simp (disch := first | with_reducible assumption | omega | exact ga_in _ _ _ | exact gg_in _ _ _ | (unfold InR; omega) | (unfold InL; omega)) only [q43_4, q43_5, q43_6, q43_9, e, Int.le_refl, sumF, Int.add_zero, pushR_I, pushR_L, pushR_R, pushR_V, InR_gg, InR_ga, InR_wr, InL_gl, InR_b, b01, b01_0, if_true, if_false, not_true_eq_false, not_false_eq_true, and_true, true_and, and_self, Sum.inl.injEq]
  | succ n ih =>
    intro i acc h
    have e : ¬ gg σ t 1 ≤ (i : Int) := by omega
    simp (disch := first | with_reducible assumption | omega | exact ga_in _ _ _ | exact gg_in _ _ _ | (unfold InR; omega) | (unfold InL; omega)) only [q43_4, q43_5, q43_6, q43_9, q43_12, q43_13, q43_14, q43_17, q43_18, q43_21, q43_24, q43_25, q43_26, e, f7, k89, k98, pushR_I, pushR_L, pushR_R, pushR_V, InR_gg, InR_ga, InR_wr, InL_gl, InR_b, b01, b01_0, if_true, if_false, not_true_eq_false, not_false_eq_true, and_true, true_and, and_self, Sum.inl.injEq]
    rw [q43_29]
    refine (ih (i + 1) _ (by omega)).trans ?_
    simp only [sumF, hotF, Int.zero_add, Int.add_assoc]
theorem m43 (hT : isT t) (h5 : gg σ t 1 ≤ 5) (h0 : 0 ≤ gg σ t 1) : Cal (d + 2) 43 [.inr (.inr (.inl t))] σ (.inl (sumF (hotF σ (t + 5) 0) 0 (gg σ t 1).toNat)) σ := by
  refine Cal_in (ls := [.inr (.inr (.inl t)), aU, aU]) rfl mna_43 mml_43 mhl_43 rfl rfl ?_
  simp (disch := first | with_reducible assumption | omega | exact ga_in _ _ _ | exact gg_in _ _ _ | (unfold InR; omega) | (unfold InL; omega)) only [q43_0, q43_1, q43_2, q43_3, pushR_I, pushR_L, pushR_R, pushR_V, InR_gg, InR_ga, InR_wr, InL_gl, InR_b, b01, b01_0, if_true, if_false, not_true_eq_false, not_false_eq_true, and_true, true_and, and_self, Sum.inl.injEq]
  refine (l43 (d := d) hT h5 (gg σ t 1).toNat 0 0 (by omega)).mpr ?_
  simp (disch := first | with_reducible assumption | omega | exact ga_in _ _ _ | exact gg_in _ _ _ | (unfold InR; omega) | (unfold InL; omega)) only [q43_32, q43_33, Int.zero_add, pushR_I, pushR_L, pushR_R, pushR_V, InR_gg, InR_ga, InR_wr, InL_gl, InR_b, b01, b01_0, if_true, if_false, not_true_eq_false, not_false_eq_true, and_true, true_and, and_self, Sum.inl.injEq]
  all_goals (first | rfl | exact ⟨rfl, rfl⟩ | exact ⟨trivial, trivial⟩)
theorem k43 (hT : isT t) (h5 : gg σ t 1 ≤ 5) (h0 : 0 ≤ gg σ t 1) : CalK (d + 2) 43 [.inr (.inr (.inl t))] σ K = K (.inl (sumF (hotF σ (t + 5) 0) 0 (gg σ t 1).toNat)) σ := CalK_eq (m43 hT h5 h0)
theorem l44 (hT : isT t) (h5 : gg σ t 1 ≤ 5) : ∀ (n i : Nat) (acc : Int), (i : Int) + n = gg σ t 1 → Wp none (d + 1) 44 4 [.inr (.inr (.inl t)), .inl acc, .inl (i : Int)] [] σ Q = Wp none (d + 1) 44 29 [.inr (.inr (.inl t)), .inl (acc + sumF (fun j => ga σ (t + 5) (0 + (j : Int))) i n), .inl (gg σ t 1)] [] σ Q := by
  obtain ⟨f0, f3, f4, f5, f6, f7, f8, f9, f10, f11⟩ := isT_f hT
  obtain ⟨⟨a1, a2, a3, a4, a5⟩, l1, l2, l3, l4, l5⟩ := isT_a hT
  intro n
  induction n with
  | zero =>
    intro i acc h
    have e : gg σ t 1 = (i : Int) := by omega
    simp (disch := first | with_reducible assumption | omega | exact ga_in _ _ _ | exact gg_in _ _ _ | (unfold InR; omega) | (unfold InL; omega)) only [q44_4, q44_5, q44_6, q44_9, e, Int.le_refl, sumF, Int.add_zero, pushR_I, pushR_L, pushR_R, pushR_V, InR_gg, InR_ga, InR_wr, InL_gl, InR_b, b01, b01_0, if_true, if_false, not_true_eq_false, not_false_eq_true, and_true, true_and, and_self, Sum.inl.injEq]
  | succ n ih =>
    intro i acc h
    have e : ¬ gg σ t 1 ≤ (i : Int) := by omega
    simp (disch := first | with_reducible assumption | omega | exact ga_in _ _ _ | exact gg_in _ _ _ | (unfold InR; omega) | (unfold InL; omega)) only [q44_4, q44_5, q44_6, q44_9, q44_12, q44_13, q44_14, q44_17, q44_18, q44_21, q44_22, q44_23, e, f7, k89, pushR_I, pushR_L, pushR_R, pushR_V, InR_gg, InR_ga, InR_wr, InL_gl, InR_b, b01, b01_0, if_true, if_false, not_true_eq_false, not_false_eq_true, and_true, true_and, and_self, Sum.inl.injEq]
    rw [q44_26]
    refine (ih (i + 1) _ (by omega)).trans ?_
    simp only [sumF, Int.zero_add, Int.add_assoc]
theorem m44 (hT : isT t) (h5 : gg σ t 1 ≤ 5) (h0 : 0 ≤ gg σ t 1) : Cal (d + 2) 44 [.inr (.inr (.inl t))] σ (.inl (sumF (fun j => ga σ (t + 5) (0 + (j : Int))) 0 (gg σ t 1).toNat)) σ := by
  refine Cal_in (ls := [.inr (.inr (.inl t)), aU, aU]) rfl mna_44 mml_44 mhl_44 rfl rfl ?_
  simp (disch := first | with_reducible assumption | omega | exact ga_in _ _ _ | exact gg_in _ _ _ | (unfold InR; omega) | (unfold InL; omega)) only [q44_0, q44_1, q44_2, q44_3, pushR_I, pushR_L, pushR_R, pushR_V, InR_gg, InR_ga, InR_wr, InL_gl, InR_b, b01, b01_0, if_true, if_false, not_true_eq_false, not_false_eq_true, and_true, true_and, and_self, Sum.inl.injEq]
  refine (l44 (d := d) hT h5 (gg σ t 1).toNat 0 0 (by omega)).mpr ?_
  simp (disch := first | with_reducible assumption | omega | exact ga_in _ _ _ | exact gg_in _ _ _ | (unfold InR; omega) | (unfold InL; omega)) only [q44_29, q44_30, Int.zero_add, pushR_I, pushR_L, pushR_R, pushR_V, InR_gg, InR_ga, InR_wr, InL_gl, InR_b, b01, b01_0, if_true, if_false, not_true_eq_false, not_false_eq_true, and_true, true_and, and_self, Sum.inl.injEq]
  all_goals (first | rfl | exact ⟨rfl, rfl⟩ | exact ⟨trivial, trivial⟩)
theorem k44 (hT : isT t) (h5 : gg σ t 1 ≤ 5) (h0 : 0 ≤ gg σ t 1) : CalK (d + 2) 44 [.inr (.inr (.inl t))] σ K = K (.inl (sumF (fun j => ga σ (t + 5) (0 + (j : Int))) 0 (gg σ t 1).toNat)) σ := CalK_eq (m44 hT h5 h0)
end TOWN
