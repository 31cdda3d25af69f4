-- the reference: round, by numbers
def rRnd : List Nat → Nat → (Int → Int) → Int → Int
  | [], _, g => g
  | d :: r, o, g => rRnd r (o + 1) (if d = 0 then g else rSay g ((d - 1 : Nat) : Int) (o : Int))
section MRND
variable {d : Nat} {σ : SG} {S : Nat → Int → Int} {K : AV → SG → Prop} {Q : AV → SG → Prop} {g : Int → Int} {m : Nat}
theorem rSay_other {l o : Int} {i : Int} (h1 : ¬ i = 6 + l) (h2 : ¬ i = 1 + o) : rSay g l o i = g i := by unfold rSay; rw [if_neg h1, if_neg h2]
theorem rRnd_lo : ∀ (ds : List Nat) (o : Nat) (g : Int → Int) (j : Nat), j < o → j < 5 → rRnd ds o g (1 + (j : Int)) = g (1 + (j : Int)) := by
  intro ds
  induction ds with
  | nil => intro o g j _ _; rfl
  | cons d r ih =>
    intro o g j hj h5
    simp only [rRnd]
    rw [ih (o + 1) _ j (by omega) h5]
    split
    · rfl
    · exact rSay_other (by omega) (by omega)
theorem scoR_congr {tk : Nat → Nat → Int → Int → Int} {he he2 : Nat → Int} : ∀ (ds : List Nat) (o : Nat) (kn : Nat → Int), (∀ j, o ≤ j → j < o + ds.length → he j = he2 j) → scoR tk he ds o kn = scoR tk he2 ds o kn := by
  intro ds
  induction ds with
  | nil => intro o kn _; rfl
  | cons d r ih =>
    intro o kn h
    have e : gHe tk he o d kn = gHe tk he2 o d kn := by unfold gHe; rw [h o (Nat.le_refl _) (by rw [List.length_cons]; omega)]
    simp only [scoR]
    rw [e, ih (o + 1) _ (fun j hj hj2 => h j (by omega) (by rw [List.length_cons]; omega))]
/-- a round's row scores what is scored -/
theorem rnd_sco : ∀ (ds : List Nat) (o : Nat) (g : Int → Int), o + ds.length ≤ 5 → (∀ x ∈ ds, x ≤ 7) →
    sumF (fun j => hot1 (rRnd ds o g (1 + (j : Int)))) o ds.length = (scoR (tkN2 g) (heG g) ds o (knG g)).1 ∧ sumF (fun j => rRnd ds o g (1 + (j : Int))) o ds.length = (scoR (tkN2 g) (heG g) ds o (knG g)).2 := by
  intro ds
  induction ds with
  | nil => intro o g _ _; exact ⟨rfl, rfl⟩
  | cons d r ih =>
    intro o g hl hx
    rw [List.length_cons] at hl
    have hd := hx d List.mem_cons_self
    simp only [rRnd, scoR, List.length_cons, sumF]
    have key : ∀ g1 : Int → Int, tkN2 g1 = tkN2 g → knG g1 = gKn d (knG g) → g1 (1 + (o : Int)) = gHe (tkN2 g) (heG g) o d (knG g) → (∀ j, o + 1 ≤ j → j < o + 1 + r.length → heG g1 j = heG g j) →
        hot1 (rRnd r (o + 1) g1 (1 + (o : Int))) + sumF (fun j => hot1 (rRnd r (o + 1) g1 (1 + (j : Int)))) (o + 1) r.length = hot1 (gHe (tkN2 g) (heG g) o d (knG g)) + (scoR (tkN2 g) (heG g) r (o + 1) (gKn d (knG g))).1 ∧
        rRnd r (o + 1) g1 (1 + (o : Int)) + sumF (fun j => rRnd r (o + 1) g1 (1 + (j : Int))) (o + 1) r.length = gHe (tkN2 g) (heG g) o d (knG g) + (scoR (tkN2 g) (heG g) r (o + 1) (gKn d (knG g))).2 := by
      intro g1 e1 e2 e3 e4
      obtain ⟨i1, i2⟩ := ih (o + 1) g1 (by omega) (fun x h => hx x (List.mem_cons_of_mem _ h))
      rw [i1, i2, rRnd_lo r (o + 1) g1 o (by omega) (by omega), e1, e2, e3, scoR_congr r (o + 1) (gKn d (knG g)) e4]
      exact ⟨rfl, rfl⟩
    by_cases c : d = 0
    · simp only [c, if_true]
      have := key g rfl (by rw [c]; rfl) (by rw [c]; rfl) (fun j _ _ => rfl)
      rw [c] at this
      exact this
    · simp only [c, if_false]
      refine key _ ?_ ?_ ?_ ?_
      · funext o2 l
        exact congrFun (tkN_say (by omega) (by omega) (by omega)) l
      · rw [knG_say (by omega)]
        unfold gKn
        rw [if_neg c]
      · unfold gHe
        rw [if_neg c, (rSay_p (by omega) (by omega)).1]
        rfl
      · intro j hj hj2
        unfold heG
        exact rSay_other (by omega) (by omega)
theorem m170 (hr : RW σ 72 221 g) {N O : Nat} (hN : g 13 = (N : Int)) (hO : g 28 = (O : Int)) (hN7 : N ≤ 7) (hO5 : O ≤ 5) {x o : Nat} (ho : o < O) (hx : x ≤ 100000) : Cal (d + 2) 170 [.inr (.inr (.inl 71)), .inl (x : Int), .inl (o : Int)] σ (.inl (((x / (N + 1) ^ (O - 1 - o) % (N + 1) : Nat) : Int) - 1)) σ := by
  have c221 : ((221 : Nat) : Int) = 221 := rfl
  have e13 : ga σ 72 13 = (N : Int) := (hr 13 (by omega) (by omega)).trans hN
  have e28 : ga σ 72 28 = (O : Int) := (hr 28 (by omega) (by omega)).trans hO
  have ee : (O : Int) - 1 - (o : Int) = ((O - 1 - o : Nat) : Int) := by omega
  have en : (N : Int) + 1 = ((N + 1 : Nat) : Int) := rfl
  have hp := pow_b (V := N + 1) (N := O - 1 - o) (by omega) (by omega)
  have hp0 : 0 < (N + 1) ^ (O - 1 - o) := Nat.pow_pos (by omega)
  have e1 : (x : Int) / (((N + 1) ^ (O - 1 - o) : Nat) : Int) = ((x / (N + 1) ^ (O - 1 - o) : Nat) : Int) := rfl
  have e2 : ((x / (N + 1) ^ (O - 1 - o) : Nat) : Int) % ((N + 1 : Nat) : Int) = ((x / (N + 1) ^ (O - 1 - o) % (N + 1) : Nat) : Int) := rfl
  have b1 : x / (N + 1) ^ (O - 1 - o) ≤ x := Nat.div_le_self _ _
  have b2 : x / (N + 1) ^ (O - 1 - o) % (N + 1) < N + 1 := Nat.mod_lt _ (by omega)
  have i1 : 0 ≤ ((x / (N + 1) ^ (O - 1 - o) : Nat) : Int) := Int.natCast_nonneg _
  have i2 : ((x / (N + 1) ^ (O - 1 - o) : Nat) : Int) < 2147483648 := Int.lt_of_le_of_lt (Int.ofNat_le.mpr b1) (by omega)
  have i3 : InR (((x / (N + 1) ^ (O - 1 - o) % (N + 1) : Nat) : Int) - 1) := by
    generalize x / (N + 1) ^ (O - 1 - o) % (N + 1) = y at b2
    exact ⟨by omega, by omega⟩
  refine Cal_in (ls := [.inr (.inr (.inl 71)), .inl (x : Int), .inl (o : Int)]) rfl mna_170 mml_170 mhl_170 rfl rfl ?_
  simp (disch := first | with_reducible assumption | omega | exact ga_in _ _ _ | exact gg_in _ _ _ | (unfold InR; omega) | (unfold InL; omega) | (simp only [shC_71, shC_72, shC_73, shC_74, shC_75, shC_76, shC_77, shC_78, shC_79, shL_72, shL_73, shL_74, shL_75, shL_76, shL_77, shL_78, shL_79]; first | done | omega)) only [q170_0, q170_1, q170_2, q170_5, q170_7, q170_8, q170_9, q170_10, q170_11, q170_14, q170_16, q170_17, q170_18, q170_19, q170_20, q170_21, q170_24, q170_25, q170_26, q170_29, q170_31, q170_32, q170_33, q170_34, q170_35, q170_36, q170_37, shC_71, shC_72, shC_73, shC_74, shC_75, shC_76, shC_77, shC_78, shC_79, shL_72, shL_73, shL_74, shL_75, shL_76, shL_77, shL_78, shL_79, shR_71_0, shR_71_1, shR_71_2, shR_71_3, shR_71_4, shR_71_5, shR_71_8, shR_71_15, c221, e13, e28, en, ee, k167 (V := N + 1) (N := O - 1 - o) (by omega) (by omega), e1, e2, pushR_I, pushR_L, pushR_R, pushR_V, InR_gg, InR_ga, InR_wr, InL_gl, InR_b, b01, b01_0, if_true, if_false, not_true_eq_false, not_false_eq_true, and_true, true_and, and_self, Sum.inl.injEq, one0, Bool.false_eq_true]
theorem k170 (hr : RW σ 72 221 g) {N O : Nat} (hN : g 13 = (N : Int)) (hO : g 28 = (O : Int)) (hN7 : N ≤ 7) (hO5 : O ≤ 5) {x o : Nat} (ho : o < O) (hx : x ≤ 100000) : CalK (d + 2) 170 [.inr (.inr (.inl 71)), .inl (x : Int), .inl (o : Int)] σ K = K (.inl (((x / (N + 1) ^ (O - 1 - o) % (N + 1) : Nat) : Int) - 1)) σ := CalK_eq (m170 hr hN hO hN7 hO5 ho hx)
theorem l171 {G : Int → Int} (hR : RW σ 72 221 G) (hG : GOK G) {N O x : Nat} (hN : G 13 = (N : Int)) (hO : G 28 = (O : Int)) (hN7 : N ≤ 7) (hO5 : O ≤ 5) (hx : x ≤ 100000) : ∀ (n o : Nat) (g : Int → Int) (τ : SG), o + n = O → RW τ 74 34 g → GOK g → (g 13 = G 13 ∧ g 28 = G 28) → ONE 74 σ τ →
    (∀ τ', ONE 74 σ τ' → RW τ' 74 34 (rRnd (digs (N + 1) n x) o g) → GOK (rRnd (digs (N + 1) n x) o g) → (rRnd (digs (N + 1) n x) o g) 28 = G 28 → Q aU τ') →
    Wp none (d + 15) 171 6 [.inr (.inr (.inl 71)), .inl (x : Int), .inl (o : Int)] [] τ Q := by
  have c221 : ((221 : Nat) : Int) = 221 := rfl
  intro n
  induction n with
  | zero =>
    intro o g τ ho hr hg he hs hq
    have hrt := RW_other hR hs (by omega)
    have e28 : ga τ 72 28 = (O : Int) := (hrt 28 (by omega) (by omega)).trans hO
    have e : (O : Int) ≤ (o : Int) := by omega
    simp (disch := first | with_reducible assumption | omega | exact ga_in _ _ _ | exact gg_in _ _ _ | (unfold InR; omega) | (unfold InL; omega) | (simp only [shC_71, shC_72, shC_73, shC_74, shC_75, shC_76, shC_77, shC_78, shC_79, shL_72, shL_73, shL_74, shL_75, shL_76, shL_77, shL_78, shL_79]; first | done | omega)) only [q171_6, q171_7, q171_8, q171_11, q171_13, q171_14, q171_47, shC_71, shC_72, shC_73, shC_74, shC_75, shC_76, shC_77, shC_78, shC_79, shL_72, shL_73, shL_74, shL_75, shL_76, shL_77, shL_78, shL_79, shR_71_0, shR_71_1, shR_71_2, shR_71_3, shR_71_4, shR_71_5, shR_71_8, shR_71_15, c221, e28, e, pushR_I, pushR_L, pushR_R, pushR_V, InR_gg, InR_ga, InR_wr, InL_gl, InR_b, b01, b01_0, if_true, if_false, not_true_eq_false, not_false_eq_true, and_true, true_and, and_self, Sum.inl.injEq, one0, Bool.false_eq_true]
    exact hq τ hs hr hg he.2
  | succ n ih =>
    intro o g τ ho hr hg he hs hq
    have hrt := RW_other hR hs (by omega)
    have e28 : ga τ 72 28 = (O : Int) := (hrt 28 (by omega) (by omega)).trans hO
    have e : ¬ (O : Int) ≤ (o : Int) := by omega
    have hM := MOKn hr (by omega) hg
    have f13 : ga τ 74 13 = g 13 := hr 13 (by omega) (by omega)
    have f28 : ga τ 74 28 = g 28 := hr 28 (by omega) (by omega)
    have en : O - 1 - o = n := by omega
    have K1 : ∀ K, CalK (d + 15) 170 [.inr (.inr (.inl 71)), .inl (x : Int), .inl (o : Int)] τ K = K (.inl (((x / (N + 1) ^ n % (N + 1) : Nat) : Int) - 1)) τ := fun K => by
      have := k170 (d := d + 13) (K := K) hrt hN hO hN7 hO5 (x := x) (o := o) (by omega) hx
      rw [en] at this
      exact this
    have hlt : x / (N + 1) ^ n % (N + 1) < N + 1 := Nat.mod_lt _ (by omega)
    simp only [digs, rRnd] at hq
    generalize x / (N + 1) ^ n % (N + 1) = y at hlt K1 hq
    by_cases c : y = 0
    · subst c
      have e0 : ((0 : Nat) : Int) - 1 = -1 := rfl
      simp only [if_true] at hq
      simp (disch := first | with_reducible assumption | omega | exact ga_in _ _ _ | exact gg_in _ _ _ | (unfold InR; omega) | (unfold InL; omega) | (simp only [shC_71, shC_72, shC_73, shC_74, shC_75, shC_76, shC_77, shC_78, shC_79, shL_72, shL_73, shL_74, shL_75, shL_76, shL_77, shL_78, shL_79]; first | done | omega)) only [q171_6, q171_7, q171_8, q171_11, q171_13, q171_14, q171_17, q171_18, q171_19, q171_20, q171_23, q171_24, q171_27, q171_28, q171_31, q171_32, q171_33, q171_34, q171_37, q171_38, q171_41, shC_71, shC_72, shC_73, shC_74, shC_75, shC_76, shC_77, shC_78, shC_79, shL_72, shL_73, shL_74, shL_75, shL_76, shL_77, shL_78, shL_79, shR_71_0, shR_71_1, shR_71_2, shR_71_3, shR_71_4, shR_71_5, shR_71_8, shR_71_15, c221, e28, e, K1, e0, pushR_I, pushR_L, pushR_R, pushR_V, InR_gg, InR_ga, InR_wr, InL_gl, InR_b, b01, b01_0, if_true, if_false, not_true_eq_false, not_false_eq_true, and_true, true_and, and_self, Sum.inl.injEq, one0, Bool.false_eq_true]
      rw [q171_44]
      exact ih (o + 1) g τ (by omega) hr hg he hs hq
    · have c' : ¬ (y : Int) - 1 = -1 := by omega
      have ey : (y : Int) - 1 = ((y - 1 : Nat) : Int) := by omega
      have hl' : 0 ≤ ((y - 1 : Nat) : Int) ∧ ((y - 1 : Nat) : Int) < g 13 := by omega
      have ho' : 0 ≤ (o : Int) ∧ (o : Int) < g 28 := by omega
      have cn : ¬ ((y - 1 : Nat) : Int) = -1 := by omega
      simp only [c, if_false] at hq
      simp (disch := first | with_reducible assumption | omega | exact ga_in _ _ _ | exact gg_in _ _ _ | (unfold InR; omega) | (unfold InL; omega) | (simp only [shC_71, shC_72, shC_73, shC_74, shC_75, shC_76, shC_77, shC_78, shC_79, shL_72, shL_73, shL_74, shL_75, shL_76, shL_77, shL_78, shL_79]; first | done | omega)) only [q171_6, q171_7, q171_8, q171_11, q171_13, q171_14, q171_17, q171_18, q171_19, q171_20, q171_23, q171_24, q171_27, q171_28, q171_31, q171_32, q171_33, q171_34, q171_37, q171_38, q171_41, shC_71, shC_72, shC_73, shC_74, shC_75, shC_76, shC_77, shC_78, shC_79, shL_72, shL_73, shL_74, shL_75, shL_76, shL_77, shL_78, shL_79, shR_71_0, shR_71_1, shR_71_2, shR_71_3, shR_71_4, shR_71_5, shR_71_8, shR_71_15, c221, e28, e, K1, ey, cn, k132 M74 hM, pushR_I, pushR_L, pushR_R, pushR_V, InR_gg, InR_ga, InR_wr, InL_gl, InR_b, b01, b01_0, if_true, if_false, not_true_eq_false, not_false_eq_true, and_true, true_and, and_self, Sum.inl.injEq, one0, Bool.false_eq_true]
      rw [q171_44]
      exact ih (o + 1) _ _ (by omega) (RW_say hr (by omega) hg hl' ho') (GOK_say hg hl' ho') ⟨by rw [rSay_other (by omega) (by omega)]; exact he.1, by rw [rSay_other (by omega) (by omega)]; exact he.2⟩ (ONE_trans hs say_one) hq
theorem m171 {G : Int → Int} (hR : RW σ 72 221 G) (hG : GOK G) {N O x : Nat} (hN : G 13 = (N : Int)) (hO : G 28 = (O : Int)) (hN7 : N ≤ 7) (hO5 : O ≤ 5) (hx : x ≤ 100000) : CalE (d + 16) 171 [.inr (.inr (.inl 71)), .inl (x : Int)] σ (fun r τ => r = aU ∧ ONE 74 σ τ ∧ RW τ 74 34 (rRnd (digs (N + 1) O x) 0 G) ∧ GOK (rRnd (digs (N + 1) O x) 0 G) ∧ (rRnd (digs (N + 1) O x) 0 G) 28 = G 28) := by
  refine Cal_ex (ls := [.inr (.inr (.inl 71)), .inl (x : Int), aU]) rfl mna_171 mml_171 mhl_171 rfl rfl ?_
  simp (disch := first | with_reducible assumption | omega | exact ga_in _ _ _ | exact gg_in _ _ _ | (unfold InR; omega) | (unfold InL; omega) | (simp only [shC_71, shC_72, shC_73, shC_74, shC_75, shC_76, shC_77, shC_78, shC_79, shL_72, shL_73, shL_74, shL_75, shL_76, shL_77, shL_78, shL_79]; first | done | omega)) only [q171_0, q171_1, q171_4, q171_5, shC_71, shC_72, shC_73, shC_74, shC_75, shC_76, shC_77, shC_78, shC_79, shL_72, shL_73, shL_74, shL_75, shL_76, shL_77, shL_78, shL_79, shR_71_0, shR_71_1, shR_71_2, shR_71_3, shR_71_4, shR_71_5, shR_71_8, shR_71_15, k137, pushR_I, pushR_L, pushR_R, pushR_V, InR_gg, InR_ga, InR_wr, InL_gl, InR_b, b01, b01_0, if_true, if_false, not_true_eq_false, not_false_eq_true, and_true, true_and, and_self, Sum.inl.injEq, one0, Bool.false_eq_true]
  exact l171 (d := d) (σ := σ) hR hG hN hO hN7 hO5 hx O 0 G (asIt σ) (by omega) (RW_asIt hR) hG ⟨rfl, rfl⟩ asIt_one (fun τ' h1 h2 h3 h4 => ⟨rfl, h1, h2, h3, h4⟩)
def updM (B : Nat × Int × Int) (x : Nat) (hot heat : Int) : Nat × Int × Int := if B.2.1 < hot ∨ (hot = B.2.1 ∧ B.2.2 < heat) then (x, hot, heat) else B
def sc1 (g : Int → Int) (N O x : Nat) : Int := (scoR (tkN2 g) (heG g) (digs (N + 1) O x) 0 (knG g)).1
def sc2 (g : Int → Int) (N O x : Nat) : Int := (scoR (tkN2 g) (heG g) (digs (N + 1) O x) 0 (knG g)).2
def rndM (g : Int → Int) (N O : Nat) : Nat × Int × Int := foldU (fun x B => updM B x (sc1 g N O x) (sc2 g N O x)) ((N + 1) ^ O) 0 (0, -1, -1)
theorem rnd_same {N O : Nat} (hN : g 13 = (N : Int)) (hO : g 28 = (O : Int)) : (rndB g).2 = (rndM g N O).2 ∧ (rndB g).1 = digs (N + 1) O (rndM g N O).1 := by
  have e1 : (g 13).toNat = N := by omega
  have e2 : (g 28).toNat = O := by omega
  unfold rndB rndM
  rw [e1, e2, plc_num]
  have key : ∀ (k x : Nat) (B : List Nat × Int × Int) (C : Nat × Int × Int), B.2 = C.2 → (B.1 = digs (N + 1) O C.1 ∨ (C.2.1 = -1 ∧ 0 < k)) →
      (foldU (fun x B => updB B ([] ++ digs (N + 1) O x) (0 + (scoR (tkN2 g) (heG g) (digs (N + 1) O x) 0 (knG g)).1) (0 + (scoR (tkN2 g) (heG g) (digs (N + 1) O x) 0 (knG g)).2)) k x B).2 = (foldU (fun x B => updM B x (sc1 g N O x) (sc2 g N O x)) k x C).2 ∧
      (foldU (fun x B => updB B ([] ++ digs (N + 1) O x) (0 + (scoR (tkN2 g) (heG g) (digs (N + 1) O x) 0 (knG g)).1) (0 + (scoR (tkN2 g) (heG g) (digs (N + 1) O x) 0 (knG g)).2)) k x B).1 = digs (N + 1) O (foldU (fun x B => updM B x (sc1 g N O x) (sc2 g N O x)) k x C).1 := by
    intro k
    induction k with
    | zero =>
      intro x B C h1 h2
      rcases h2 with h2 | h2
      · exact ⟨h1, h2⟩
      · omega
    | succ k ih =>
      intro x B C h1 h2
      simp only [foldU]
      have hs : 0 ≤ sc1 g N O x := scoR_nn (tkN2 g) (heG g) (digs (N + 1) O x) 0 (knG g)
      have z1 : 0 + (scoR (tkN2 g) (heG g) (digs (N + 1) O x) 0 (knG g)).1 = sc1 g N O x := Int.zero_add _
      have z2 : 0 + (scoR (tkN2 g) (heG g) (digs (N + 1) O x) 0 (knG g)).2 = sc2 g N O x := Int.zero_add _
      rw [z1, z2]
      by_cases c : C.2.1 < sc1 g N O x ∨ (sc1 g N O x = C.2.1 ∧ C.2.2 < sc2 g N O x)
      · have eB : updB B ([] ++ digs (N + 1) O x) (sc1 g N O x) (sc2 g N O x) = (digs (N + 1) O x, sc1 g N O x, sc2 g N O x) := by unfold updB; rw [h1, if_pos c, List.nil_append]
        have eC : updM C x (sc1 g N O x) (sc2 g N O x) = (x, sc1 g N O x, sc2 g N O x) := by unfold updM; rw [if_pos c]
        rw [eB, eC]
        exact ih (x + 1) _ _ rfl (Or.inl rfl)
      · have eB : updB B ([] ++ digs (N + 1) O x) (sc1 g N O x) (sc2 g N O x) = B := by unfold updB; rw [h1, if_neg c]
        have eC : updM C x (sc1 g N O x) (sc2 g N O x) = C := by unfold updM; rw [if_neg c]
        rw [eB, eC]
        refine ih (x + 1) _ _ h1 ?_
        rcases h2 with h2 | h2
        · exact Or.inl h2
        · exact absurd (Or.inl (by omega)) c
  exact key _ 0 _ _ rfl (Or.inr ⟨rfl, Nat.pow_pos (by omega)⟩)
theorem l172 {G : Int → Int} (hR : RW σ 72 221 G) (hG : GOK G) {N O : Nat} (hN : G 13 = (N : Int)) (hO : G 28 = (O : Int)) {w1 : AV} : ∀ (n x : Nat) (B : Nat × Int × Int) (τ : SG) (v6 v7 v8 : AV), x + n = (N + 1) ^ O → ONE 74 σ τ → (B.1 ≤ 100000 ∧ (-1 ≤ B.2.1 ∧ B.2.1 ≤ 5) ∧ -1 ≤ B.2.2 ∧ B.2.2 ≤ 495) →
    (∀ τ' v5 v6 v7 v8, ONE 74 σ τ' → ((foldU (fun x B => updM B x (sc1 G N O x) (sc2 G N O x)) n x B).1 ≤ 100000 ∧ (-1 ≤ (foldU (fun x B => updM B x (sc1 G N O x) (sc2 G N O x)) n x B).2.1 ∧ (foldU (fun x B => updM B x (sc1 G N O x) (sc2 G N O x)) n x B).2.1 ≤ 5) ∧ -1 ≤ (foldU (fun x B => updM B x (sc1 G N O x) (sc2 G N O x)) n x B).2.2 ∧ (foldU (fun x B => updM B x (sc1 G N O x) (sc2 G N O x)) n x B).2.2 ≤ 495) → Wp none (d + 19) 172 151 [.inr (.inr (.inl 71)), w1, .inl ((foldU (fun x B => updM B x (sc1 G N O x) (sc2 G N O x)) n x B).1 : Int), .inl (foldU (fun x B => updM B x (sc1 G N O x) (sc2 G N O x)) n x B).2.1, .inl (foldU (fun x B => updM B x (sc1 G N O x) (sc2 G N O x)) n x B).2.2, v5, v6, v7, v8] [] τ' Q) →
    Wp none (d + 19) 172 33 [.inr (.inr (.inl 71)), w1, .inl (B.1 : Int), .inl B.2.1, .inl B.2.2, .inl (x : Int), v6, v7, v8] [] τ Q := by
  have c221 : ((221 : Nat) : Int) = 221 := rfl
  have G1 := hG.1
  have G2 := hG.2.1
  have en : (N : Int) + 1 = ((N + 1 : Nat) : Int) := rfl
  have hp := pow_b (V := N + 1) (N := O) (by omega) (by omega)
  intro n
  induction n with
  | zero =>
    intro x B τ v6 v7 v8 hx hs hB hq
    have hrt := RW_other hR hs (by omega)
    have e13 : ga τ 72 13 = (N : Int) := (hrt 13 (by omega) (by omega)).trans hN
    have e28 : ga τ 72 28 = (O : Int) := (hrt 28 (by omega) (by omega)).trans hO
    have e : (((N + 1) ^ O : Nat) : Int) ≤ (x : Int) := by omega
    simp (disch := first | with_reducible assumption | omega | exact ga_in _ _ _ | exact gg_in _ _ _ | (unfold InR; omega) | (unfold InL; omega) | (simp only [shC_71, shC_72, shC_73, shC_74, shC_75, shC_76, shC_77, shC_78, shC_79, shL_72, shL_73, shL_74, shL_75, shL_76, shL_77, shL_78, shL_79]; first | done | omega)) only [q172_33, q172_35, q172_36, q172_39, q172_41, q172_42, q172_43, q172_44, q172_45, q172_48, q172_50, q172_51, q172_54, shC_71, shC_72, shC_73, shC_74, shC_75, shC_76, shC_77, shC_78, shC_79, shL_72, shL_73, shL_74, shL_75, shL_76, shL_77, shL_78, shL_79, shR_71_0, shR_71_1, shR_71_2, shR_71_3, shR_71_4, shR_71_5, shR_71_8, shR_71_15, c221, e13, e28, en, k167 (V := N + 1) (N := O) (by omega) (by omega), e, pushR_I, pushR_L, pushR_R, pushR_V, InR_gg, InR_ga, InR_wr, InL_gl, InR_b, b01, b01_0, if_true, if_false, not_true_eq_false, not_false_eq_true, and_true, true_and, and_self, Sum.inl.injEq, one0, Bool.false_eq_true]
    exact hq τ _ _ _ _ hs hB
  | succ n ih =>
    intro x B τ v6 v7 v8 hx hs hB hq
    have hrt := RW_other hR hs (by omega)
    have e13 : ga τ 72 13 = (N : Int) := (hrt 13 (by omega) (by omega)).trans hN
    have e28 : ga τ 72 28 = (O : Int) := (hrt 28 (by omega) (by omega)).trans hO
    have e : ¬ (((N + 1) ^ O : Nat) : Int) ≤ (x : Int) := by omega
    simp (disch := first | with_reducible assumption | omega | exact ga_in _ _ _ | exact gg_in _ _ _ | (unfold InR; omega) | (unfold InL; omega) | (simp only [shC_71, shC_72, shC_73, shC_74, shC_75, shC_76, shC_77, shC_78, shC_79, shL_72, shL_73, shL_74, shL_75, shL_76, shL_77, shL_78, shL_79]; first | done | omega)) only [q172_33, q172_35, q172_36, q172_39, q172_41, q172_42, q172_43, q172_44, q172_45, q172_48, q172_50, q172_51, q172_54, q172_57, q172_58, q172_60, shC_71, shC_72, shC_73, shC_74, shC_75, shC_76, shC_77, shC_78, shC_79, shL_72, shL_73, shL_74, shL_75, shL_76, shL_77, shL_78, shL_79, shR_71_0, shR_71_1, shR_71_2, shR_71_3, shR_71_4, shR_71_5, shR_71_8, shR_71_15, c221, e13, e28, en, k167 (V := N + 1) (N := O) (by omega) (by omega), e, pushR_I, pushR_L, pushR_R, pushR_V, InR_gg, InR_ga, InR_wr, InL_gl, InR_b, b01, b01_0, if_true, if_false, not_true_eq_false, not_false_eq_true, and_true, true_and, and_self, Sum.inl.injEq, one0, Bool.false_eq_true]
    refine CalK_E (m171 (d := d + 3) hrt hG hN hO (x := x) (by omega) (by omega) (by omega)) (fun r υ hP => ?_)
    obtain ⟨rfl, hu, hru, hgu, h28⟩ := hP
    have hs2 := ONE_trans hs hu
    have hlen : (digs (N + 1) O x).length = O := digs_len O x
    obtain ⟨q1, q2⟩ := rnd_sco (digs (N + 1) O x) 0 G (by rw [hlen]; omega) (fun y hy => by have := digs_lt (n := N + 1) (by omega) O x y hy; omega)
    rw [hlen] at q1 q2
    have eo : (rRnd (digs (N + 1) O x) 0 G 28).toNat = O := by omega
    have hh : hotG (rRnd (digs (N + 1) O x) 0 G) = sc1 G N O x := by unfold hotG; rw [eo]; exact q1
    have hh2 : heatG (rRnd (digs (N + 1) O x) 0 G) = sc2 G N O x := by unfold heatG; rw [eo]; exact q2
    have b1 := hotG_b hgu
    have b2 := heatG_b hgu
    rw [hh] at b1
    rw [hh2] at b2
    have f28 : ga υ 74 28 = rRnd (digs (N + 1) O x) 0 G 28 := hru 28 (by omega) (by omega)
    have g28' := hgu.2.1
    have E1 := RW_hot hru (by omega) hgu
    have E2 := RW_heat hru (by omega) hgu
    rw [hh] at E1
    rw [hh2] at E2
    simp only [foldU] at hq
    by_cases c : B.2.1 < sc1 G N O x ∨ (sc1 G N O x = B.2.1 ∧ B.2.2 < sc2 G N O x)
    · have eB : updM B x (sc1 G N O x) (sc2 G N O x) = (x, sc1 G N O x, sc2 G N O x) := by unfold updM; rw [if_pos c]
      rw [eB] at hq
      have fin : Wp none (d + 19) 172 33 [.inr (.inr (.inl 71)), w1, .inl (x : Int), .inl (sc1 G N O x), .inl (sc2 G N O x), .inl ((x : Int) + 1), .inl (sc1 G N O x), .inl (sc2 G N O x), .inl 1] [] υ Q :=
        ih (x + 1) (x, sc1 G N O x, sc2 G N O x) υ _ _ _ (by omega) hs2 ⟨by show x ≤ 100000; omega, ⟨by show -1 ≤ sc1 G N O x; omega, by show sc1 G N O x ≤ 5; omega⟩, by show -1 ≤ sc2 G N O x; omega, by show sc2 G N O x ≤ 495; omega⟩ hq
      by_cases c1 : B.2.1 < sc1 G N O x
      · simp (disch := first | with_reducible assumption | omega | exact ga_in _ _ _ | exact gg_in _ _ _ | (unfold InR; omega) | (unfold InL; omega) | (simp only [shC_71, shC_72, shC_73, shC_74, shC_75, shC_76, shC_77, shC_78, shC_79, shL_72, shL_73, shL_74, shL_75, shL_76, shL_77, shL_78, shL_79]; first | done | omega)) only [q172_63, q172_64, q172_67, q172_70, q172_72, q172_73, q172_76, q172_79, q172_81, q172_83, q172_84, q172_87, q172_89, q172_90, q172_93, q172_95, q172_97, q172_100, q172_101, q172_104, q172_105, q172_107, q172_109, q172_112, q172_114, q172_117, q172_118, q172_119, q172_121, q172_124, q172_126, q172_129, q172_130, q172_131, q172_133, q172_136, q172_138, q172_141, q172_143, q172_145, shC_71, shC_72, shC_73, shC_74, shC_75, shC_76, shC_77, shC_78, shC_79, shL_72, shL_73, shL_74, shL_75, shL_76, shL_77, shL_78, shL_79, shR_71_0, shR_71_1, shR_71_2, shR_71_3, shR_71_4, shR_71_5, shR_71_8, shR_71_15, k134 (σ := υ) M74 (by omega), k135 (σ := υ) M74 (by omega), E1, E2, c1, pushR_I, pushR_L, pushR_R, pushR_V, InR_gg, InR_ga, InR_wr, InL_gl, InR_b, b01, b01_0, if_true, if_false, not_true_eq_false, not_false_eq_true, and_true, true_and, and_self, Sum.inl.injEq, one0, Bool.false_eq_true]
        rw [q172_148]
        exact fin
      · have c2 : sc1 G N O x = B.2.1 := by omega
        have c3 : ¬ sc2 G N O x ≤ B.2.2 := by omega
        have c1' : ¬ B.2.1 < B.2.1 := by omega
        rw [c2] at fin
        simp (disch := first | with_reducible assumption | omega | exact ga_in _ _ _ | exact gg_in _ _ _ | (unfold InR; omega) | (unfold InL; omega) | (simp only [shC_71, shC_72, shC_73, shC_74, shC_75, shC_76, shC_77, shC_78, shC_79, shL_72, shL_73, shL_74, shL_75, shL_76, shL_77, shL_78, shL_79]; first | done | omega)) only [q172_63, q172_64, q172_67, q172_70, q172_72, q172_73, q172_76, q172_79, q172_81, q172_83, q172_84, q172_87, q172_89, q172_90, q172_93, q172_95, q172_97, q172_100, q172_101, q172_104, q172_105, q172_107, q172_109, q172_112, q172_114, q172_117, q172_118, q172_119, q172_121, q172_124, q172_126, q172_129, q172_130, q172_131, q172_133, q172_136, q172_138, q172_141, q172_143, q172_145, shC_71, shC_72, shC_73, shC_74, shC_75, shC_76, shC_77, shC_78, shC_79, shL_72, shL_73, shL_74, shL_75, shL_76, shL_77, shL_78, shL_79, shR_71_0, shR_71_1, shR_71_2, shR_71_3, shR_71_4, shR_71_5, shR_71_8, shR_71_15, k134 (σ := υ) M74 (by omega), k135 (σ := υ) M74 (by omega), E1, E2, c2, c1', c3, pushR_I, pushR_L, pushR_R, pushR_V, InR_gg, InR_ga, InR_wr, InL_gl, InR_b, b01, b01_0, if_true, if_false, not_true_eq_false, not_false_eq_true, and_true, true_and, and_self, Sum.inl.injEq, one0, Bool.false_eq_true]
        rw [q172_148]
        exact fin
    · have eB : updM B x (sc1 G N O x) (sc2 G N O x) = B := by unfold updM; rw [if_neg c]
      rw [eB] at hq
      have fin : Wp none (d + 19) 172 33 [.inr (.inr (.inl 71)), w1, .inl (B.1 : Int), .inl B.2.1, .inl B.2.2, .inl ((x : Int) + 1), .inl (sc1 G N O x), .inl (sc2 G N O x), .inl 0] [] υ Q :=
        ih (x + 1) B υ _ _ _ (by omega) hs2 hB hq
      have c1 : ¬ B.2.1 < sc1 G N O x := by omega
      by_cases c2 : sc1 G N O x = B.2.1
      · have c3 : sc2 G N O x ≤ B.2.2 := by omega
        have c1' : ¬ B.2.1 < B.2.1 := by omega
        rw [c2] at fin
        simp (disch := first | with_reducible assumption | omega | exact ga_in _ _ _ | exact gg_in _ _ _ | (unfold InR; omega) | (unfold InL; omega) | (simp only [shC_71, shC_72, shC_73, shC_74, shC_75, shC_76, shC_77, shC_78, shC_79, shL_72, shL_73, shL_74, shL_75, shL_76, shL_77, shL_78, shL_79]; first | done | omega)) only [q172_63, q172_64, q172_67, q172_70, q172_72, q172_73, q172_76, q172_79, q172_81, q172_83, q172_84, q172_87, q172_89, q172_90, q172_93, q172_95, q172_97, q172_100, q172_101, q172_104, q172_105, q172_107, q172_109, q172_112, q172_114, q172_117, q172_118, q172_119, q172_121, q172_124, q172_126, q172_129, q172_130, q172_131, q172_133, q172_136, q172_138, q172_141, q172_143, q172_145, shC_71, shC_72, shC_73, shC_74, shC_75, shC_76, shC_77, shC_78, shC_79, shL_72, shL_73, shL_74, shL_75, shL_76, shL_77, shL_78, shL_79, shR_71_0, shR_71_1, shR_71_2, shR_71_3, shR_71_4, shR_71_5, shR_71_8, shR_71_15, k134 (σ := υ) M74 (by omega), k135 (σ := υ) M74 (by omega), E1, E2, c2, c1', c3, pushR_I, pushR_L, pushR_R, pushR_V, InR_gg, InR_ga, InR_wr, InL_gl, InR_b, b01, b01_0, if_true, if_false, not_true_eq_false, not_false_eq_true, and_true, true_and, and_self, Sum.inl.injEq, one0, Bool.false_eq_true]
        rw [q172_148]
        exact fin
      · simp (disch := first | with_reducible assumption | omega | exact ga_in _ _ _ | exact gg_in _ _ _ | (unfold InR; omega) | (unfold InL; omega) | (simp only [shC_71, shC_72, shC_73, shC_74, shC_75, shC_76, shC_77, shC_78, shC_79, shL_72, shL_73, shL_74, shL_75, shL_76, shL_77, shL_78, shL_79]; first | done | omega)) only [q172_63, q172_64, q172_67, q172_70, q172_72, q172_73, q172_76, q172_79, q172_81, q172_83, q172_84, q172_87, q172_89, q172_90, q172_93, q172_95, q172_97, q172_100, q172_101, q172_104, q172_105, q172_107, q172_109, q172_112, q172_114, q172_117, q172_118, q172_119, q172_121, q172_124, q172_126, q172_129, q172_130, q172_131, q172_133, q172_136, q172_138, q172_141, q172_143, q172_145, shC_71, shC_72, shC_73, shC_74, shC_75, shC_76, shC_77, shC_78, shC_79, shL_72, shL_73, shL_74, shL_75, shL_76, shL_77, shL_78, shL_79, shR_71_0, shR_71_1, shR_71_2, shR_71_3, shR_71_4, shR_71_5, shR_71_8, shR_71_15, k134 (σ := υ) M74 (by omega), k135 (σ := υ) M74 (by omega), E1, E2, c1, c2, pushR_I, pushR_L, pushR_R, pushR_V, InR_gg, InR_ga, InR_wr, InL_gl, InR_b, b01, b01_0, if_true, if_false, not_true_eq_false, not_false_eq_true, and_true, true_and, and_self, Sum.inl.injEq, one0, Bool.false_eq_true]
        rw [q172_148]
        exact fin
theorem o172 (h : MR σ S) (hS : SOK S) {o : Int} (ho : InR o) : CalE (d + 20) 172 [.inr (.inr (.inl 71)), .inl o] σ (OPM σ (fRound S o)) := by
  have c221 : ((221 : Nat) : Int) = 221 := rfl
  have e28 : ga σ 72 28 = S 0 28 := h.1 28 (by omega) (by omega)
  have g13 := hS.1.1
  have g28 := hS.1.2.1
  refine Cal_ex (ls := [.inr (.inr (.inl 71)), .inl o, aU, aU, aU, aU, aU, aU, aU]) rfl mna_172 mml_172 mhl_172 rfl rfl ?_
  unfold fRound
  by_cases h1 : -2 ≤ o ∧ o < S 0 28
  · have h1' : -2 ≤ o ∧ o ≤ S 0 28 - 1 := by omega
    rw [if_pos h1]
    simp (disch := first | with_reducible assumption | omega | exact ga_in _ _ _ | exact gg_in _ _ _ | (unfold InR; omega) | (unfold InL; omega) | (simp only [shC_71, shC_72, shC_73, shC_74, shC_75, shC_76, shC_77, shC_78, shC_79, shL_72, shL_73, shL_74, shL_75, shL_76, shL_77, shL_78, shL_79]; first | done | omega)) only [q172_0, q172_1, q172_3, q172_4, q172_7, q172_9, q172_10, q172_11, q172_12, q172_15, q172_18, q172_19, q172_22, q172_23, q172_24, q172_25, q172_26, q172_27, q172_28, q172_30, q172_31, shC_71, shC_72, shC_73, shC_74, shC_75, shC_76, shC_77, shC_78, shC_79, shL_72, shL_73, shL_74, shL_75, shL_76, shL_77, shL_78, shL_79, shR_71_0, shR_71_1, shR_71_2, shR_71_3, shR_71_4, shR_71_5, shR_71_8, shR_71_15, c221, e28, k116, h1', pushR_I, pushR_L, pushR_R, pushR_V, InR_gg, InR_ga, InR_wr, InL_gl, InR_b, b01, b01_0, if_true, if_false, not_true_eq_false, not_false_eq_true, and_true, true_and, and_self, Sum.inl.injEq, one0, Bool.false_eq_true]
    refine l172 (d := d) (σ := σ) h.1 hS.1 (N := (S 0 13).toNat) (O := (S 0 28).toNat) (by omega) (by omega) (((S 0 13).toNat + 1) ^ (S 0 28).toNat) 0 (0, -1, -1) σ _ _ _ (by omega) (ONE_refl _ _) ⟨by show (0 : Nat) ≤ 100000; omega, ⟨by show (-1 : Int) ≤ -1; omega, by show (-1 : Int) ≤ 5; omega⟩, by show (-1 : Int) ≤ -1; omega, by show (-1 : Int) ≤ 495; omega⟩ (fun τ' v5 v6 v7 v8 ht hb => ?_)
    obtain ⟨r1, r2⟩ := rnd_same (g := S 0) (N := (S 0 13).toNat) (O := (S 0 28).toNat) (by omega) (by omega)
    unfold rndM at r1 r2
    rw [r1, r2]
    generalize foldU (fun x B => updM B x (sc1 (S 0) (S 0 13).toNat (S 0 28).toNat x) (sc2 (S 0) (S 0 13).toNat (S 0 28).toNat x)) (((S 0 13).toNat + 1) ^ (S 0 28).toNat) 0 (0, -1, -1) = R at hb ⊢
    obtain ⟨hb1, hb2, hb3⟩ := hb
    by_cases c1 : o = -2
    · rw [if_pos c1]
      simp (disch := first | with_reducible assumption | omega | exact ga_in _ _ _ | exact gg_in _ _ _ | (unfold InR; omega) | (unfold InL; omega) | (simp only [shC_71, shC_72, shC_73, shC_74, shC_75, shC_76, shC_77, shC_78, shC_79, shL_72, shL_73, shL_74, shL_75, shL_76, shL_77, shL_78, shL_79]; first | done | omega)) only [q172_151, q172_152, q172_154, q172_157, q172_158, q172_161, q172_162, q172_163, q172_166, q172_168, q172_171, q172_172, q172_173, q172_174, q172_177, shC_71, shC_72, shC_73, shC_74, shC_75, shC_76, shC_77, shC_78, shC_79, shL_72, shL_73, shL_74, shL_75, shL_76, shL_77, shL_78, shL_79, shR_71_0, shR_71_1, shR_71_2, shR_71_3, shR_71_4, shR_71_5, shR_71_8, shR_71_15, c1, pushR_I, pushR_L, pushR_R, pushR_V, InR_gg, InR_ga, InR_wr, InL_gl, InR_b, b01, b01_0, if_true, if_false, not_true_eq_false, not_false_eq_true, and_true, true_and, and_self, Sum.inl.injEq, one0, Bool.false_eq_true]
      exact MO_74 h ht
    · by_cases c2 : o = -1
      · rw [if_neg c1, if_pos c2]
        have c1' : ¬ ((-1 : Int) = -2) := by omega
        simp (disch := first | with_reducible assumption | omega | exact ga_in _ _ _ | exact gg_in _ _ _ | (unfold InR; omega) | (unfold InL; omega) | (simp only [shC_71, shC_72, shC_73, shC_74, shC_75, shC_76, shC_77, shC_78, shC_79, shL_72, shL_73, shL_74, shL_75, shL_76, shL_77, shL_78, shL_79]; first | done | omega)) only [q172_151, q172_152, q172_154, q172_157, q172_158, q172_161, q172_162, q172_163, q172_166, q172_168, q172_171, q172_172, q172_173, q172_174, q172_177, shC_71, shC_72, shC_73, shC_74, shC_75, shC_76, shC_77, shC_78, shC_79, shL_72, shL_73, shL_74, shL_75, shL_76, shL_77, shL_78, shL_79, shR_71_0, shR_71_1, shR_71_2, shR_71_3, shR_71_4, shR_71_5, shR_71_8, shR_71_15, c2, c1', pushR_I, pushR_L, pushR_R, pushR_V, InR_gg, InR_ga, InR_wr, InL_gl, InR_b, b01, b01_0, if_true, if_false, not_true_eq_false, not_false_eq_true, and_true, true_and, and_self, Sum.inl.injEq, one0, Bool.false_eq_true]
        exact MO_74 h ht
      · rw [if_neg c1, if_neg c2, digs_get _ _ _ (by omega)]
        have hrt := RW_other h.1 ht (by omega)
        have hlt : R.1 / ((S 0 13).toNat + 1) ^ ((S 0 28).toNat - 1 - o.toNat) % ((S 0 13).toNat + 1) < (S 0 13).toNat + 1 := Nat.mod_lt _ (by omega)
        have K1 : ∀ K, CalK (d + 19) 170 [.inr (.inr (.inl 71)), .inl (R.1 : Int), .inl o] τ' K = K (.inl (((R.1 / ((S 0 13).toNat + 1) ^ ((S 0 28).toNat - 1 - o.toNat) % ((S 0 13).toNat + 1) : Nat) : Int) - 1)) τ' := fun K => by
          have := k170 (d := d + 17) (K := K) hrt (N := (S 0 13).toNat) (O := (S 0 28).toNat) (by omega) (by omega) (by omega) (by omega) (x := R.1) (o := o.toNat) (by omega) hb1
          rw [show ((o.toNat : Nat) : Int) = o by omega] at this
          exact this
        generalize R.1 / ((S 0 13).toNat + 1) ^ ((S 0 28).toNat - 1 - o.toNat) % ((S 0 13).toNat + 1) = y at hlt K1 ⊢
        simp (disch := first | with_reducible assumption | omega | exact ga_in _ _ _ | exact gg_in _ _ _ | (unfold InR; omega) | (unfold InL; omega) | (simp only [shC_71, shC_72, shC_73, shC_74, shC_75, shC_76, shC_77, shC_78, shC_79, shL_72, shL_73, shL_74, shL_75, shL_76, shL_77, shL_78, shL_79]; first | done | omega)) only [q172_151, q172_152, q172_154, q172_157, q172_158, q172_161, q172_162, q172_163, q172_166, q172_168, q172_171, q172_172, q172_173, q172_174, q172_177, shC_71, shC_72, shC_73, shC_74, shC_75, shC_76, shC_77, shC_78, shC_79, shL_72, shL_73, shL_74, shL_75, shL_76, shL_77, shL_78, shL_79, shR_71_0, shR_71_1, shR_71_2, shR_71_3, shR_71_4, shR_71_5, shR_71_8, shR_71_15, c1, c2, K1, pushR_I, pushR_L, pushR_R, pushR_V, InR_gg, InR_ga, InR_wr, InL_gl, InR_b, b01, b01_0, if_true, if_false, not_true_eq_false, not_false_eq_true, and_true, true_and, and_self, Sum.inl.injEq, one0, Bool.false_eq_true]
        exact MO_74 h ht
  · have h1' : ¬ (-2 ≤ o ∧ o ≤ S 0 28 - 1) := by omega
    rw [if_neg h1]
    simp (disch := first | with_reducible assumption | omega | exact ga_in _ _ _ | exact gg_in _ _ _ | (unfold InR; omega) | (unfold InL; omega) | (simp only [shC_71, shC_72, shC_73, shC_74, shC_75, shC_76, shC_77, shC_78, shC_79, shL_72, shL_73, shL_74, shL_75, shL_76, shL_77, shL_78, shL_79]; first | done | omega)) only [q172_0, q172_1, q172_3, q172_4, q172_7, q172_9, q172_10, q172_11, q172_12, q172_15, q172_18, q172_19, q172_22, q172_23, q172_24, q172_25, q172_26, q172_27, q172_28, q172_30, q172_31, shC_71, shC_72, shC_73, shC_74, shC_75, shC_76, shC_77, shC_78, shC_79, shL_72, shL_73, shL_74, shL_75, shL_76, shL_77, shL_78, shL_79, shR_71_0, shR_71_1, shR_71_2, shR_71_3, shR_71_4, shR_71_5, shR_71_8, shR_71_15, c221, e28, k116, h1', k121, pushR_I, pushR_L, pushR_R, pushR_V, InR_gg, InR_ga, InR_wr, InL_gl, InR_b, b01, b01_0, if_true, if_false, not_true_eq_false, not_false_eq_true, and_true, true_and, and_self, Sum.inl.injEq, one0, Bool.false_eq_true]
    exact MO_badT h
end MRND
