-- a step goes on at one place: so what Wp says can be picked out of it
theorem if_t {P A B : Prop} [Decidable P] (h : P) (a : A) : if P then A else B := by rw [if_pos h]; exact a
theorem if_f {P A B : Prop} [Decidable P] (h : ¬ P) (b : B) : if P then A else B := by rw [if_neg h]; exact b
set_option maxHeartbeats 4000000 in
set_option maxRecDepth 100000 in
theorem wstep_lin {X : XS} {C : Nat → List AV → SG → AV → SG → Prop} {y pc : Nat} {ls st : List AV} {σ : SG} {Q : AV → SG → Prop} {K : Nat → List AV → List AV → SG → Prop} {i : Instr}
    (h1 : wstep X (calC C) y pc ls st σ Q K i) :
    (∃ pc' ls' st' σ', K pc' ls' st' σ' ∧ ∀ (Q2 : AV → SG → Prop) (K2 : Nat → List AV → List AV → SG → Prop), K2 pc' ls' st' σ' → wstep X (calC C) y pc ls st σ Q2 K2 i) ∨
    (∃ r σ', Q r σ' ∧ ∀ (Q2 : AV → SG → Prop) (K2 : Nat → List AV → List AV → SG → Prop), Q2 r σ' → wstep X (calC C) y pc ls st σ Q2 K2 i) := by
  cases i with
  | iconst v => exact .inl ⟨_, _, _, _, h1.2, fun _ _ k => And.intro h1.1 k⟩
  | bipush v => exact .inl ⟨_, _, _, _, h1.2, fun _ _ k => And.intro h1.1 k⟩
  | sipush v => exact .inl ⟨_, _, _, _, h1.2, fun _ _ k => And.intro h1.1 k⟩
  | lconst v => exact .inl ⟨_, _, _, _, h1, fun _ _ k => k⟩
  | ldc idx =>
    simp only [wstep] at h1
    split at h1
    · rename_i q hq
      refine .inl ⟨_, _, _, _, h1, fun _ _ k => ?_⟩
      simp only [wstep, hq]
      exact k
    · rename_i hq
      split at h1
      · rename_i q hq2
        refine .inl ⟨_, _, _, _, h1, fun _ _ k => ?_⟩
        simp only [wstep, hq, hq2]
        exact k
      · exact h1.elim
  | ldc_w idx =>
    simp only [wstep] at h1
    split at h1
    · rename_i q hq
      refine .inl ⟨_, _, _, _, h1, fun _ _ k => ?_⟩
      simp only [wstep, hq]
      exact k
    · exact h1.elim
  | ldc2_w idx =>
    simp only [wstep] at h1
    split at h1
    · rename_i q hq
      refine .inl ⟨_, _, _, _, h1, fun _ _ k => ?_⟩
      simp only [wstep, hq]
      exact k
    · exact h1.elim
  | iload_n k =>
    obtain ⟨a, e, h1⟩ := lI_ex h1
    refine .inl ⟨_, _, _, _, h1, fun _ _ k => ?_⟩
    simp only [wstep, lI, e]
    exact k
  | iload k =>
    obtain ⟨a, e, h1⟩ := lI_ex h1
    refine .inl ⟨_, _, _, _, h1, fun _ _ k => ?_⟩
    simp only [wstep, lI, e]
    exact k
  | lload_n k =>
    obtain ⟨a, e, h1⟩ := lL_ex h1
    refine .inl ⟨_, _, _, _, h1, fun _ _ k => ?_⟩
    simp only [wstep, lL, e]
    exact k
  | lload k =>
    obtain ⟨a, e, h1⟩ := lL_ex h1
    refine .inl ⟨_, _, _, _, h1, fun _ _ k => ?_⟩
    simp only [wstep, lL, e]
    exact k
  | aload_n k =>
    simp only [wstep, lA] at h1
    split at h1
    · rename_i e
      refine .inl ⟨_, _, _, _, h1, fun _ _ k => ?_⟩
      simp only [wstep, lA, e]
      exact k
    · rename_i e
      refine .inl ⟨_, _, _, _, h1, fun _ _ k => ?_⟩
      simp only [wstep, lA, e]
      exact k
    · exact h1.elim
  | aload k =>
    simp only [wstep, lA] at h1
    split at h1
    · rename_i e
      refine .inl ⟨_, _, _, _, h1, fun _ _ k => ?_⟩
      simp only [wstep, lA, e]
      exact k
    · rename_i e
      refine .inl ⟨_, _, _, _, h1, fun _ _ k => ?_⟩
      simp only [wstep, lA, e]
      exact k
    · exact h1.elim
  | istore_n k =>
    obtain ⟨_, _, rfl, h1⟩ := pI_ex h1
    exact .inl ⟨_, _, _, _, h1.2.2, fun _ _ k => And.intro h1.1 (And.intro h1.2.1 k)⟩
  | istore k =>
    obtain ⟨_, _, rfl, h1⟩ := pI_ex h1
    exact .inl ⟨_, _, _, _, h1.2.2, fun _ _ k => And.intro h1.1 (And.intro h1.2.1 k)⟩
  | astore_n k =>
    obtain ⟨_, _, rfl, h1⟩ := pR_ex h1
    exact .inl ⟨_, _, _, _, h1.2.2, fun _ _ k => And.intro h1.1 (And.intro h1.2.1 k)⟩
  | astore k =>
    obtain ⟨_, _, rfl, h1⟩ := pR_ex h1
    exact .inl ⟨_, _, _, _, h1.2.2, fun _ _ k => And.intro h1.1 (And.intro h1.2.1 k)⟩
  | lstore_n k =>
    obtain ⟨_, _, rfl, h1⟩ := pL_ex h1
    exact .inl ⟨_, _, _, _, h1.2.2.2, fun _ _ k => And.intro h1.1 (And.intro h1.2.1 (And.intro h1.2.2.1 k))⟩
  | lstore k =>
    obtain ⟨_, _, rfl, h1⟩ := pL_ex h1
    exact .inl ⟨_, _, _, _, h1.2.2.2, fun _ _ k => And.intro h1.1 (And.intro h1.2.1 (And.intro h1.2.2.1 k))⟩
  | iinc k v =>
    obtain ⟨a, e, h1⟩ := lI_ex h1
    refine .inl ⟨_, _, _, _, h1.2.2, fun _ _ k => ?_⟩
    simp only [wstep, lI, e]
    exact And.intro h1.1 (And.intro h1.2.1 k)
  | iadd =>
    obtain ⟨_, _, rfl, h1⟩ := pI_ex h1
    obtain ⟨_, _, rfl, h1⟩ := pI_ex h1
    exact .inl ⟨_, _, _, _, h1, fun _ _ k => k⟩
  | isub =>
    obtain ⟨_, _, rfl, h1⟩ := pI_ex h1
    obtain ⟨_, _, rfl, h1⟩ := pI_ex h1
    exact .inl ⟨_, _, _, _, h1, fun _ _ k => k⟩
  | imul =>
    obtain ⟨_, _, rfl, h1⟩ := pI_ex h1
    obtain ⟨_, _, rfl, h1⟩ := pI_ex h1
    exact .inl ⟨_, _, _, _, h1, fun _ _ k => k⟩
  | idiv =>
    obtain ⟨_, _, rfl, h1⟩ := pI_ex h1
    obtain ⟨_, _, rfl, h1⟩ := pI_ex h1
    exact .inl ⟨_, _, _, _, h1.2, fun _ _ k => And.intro h1.1 k⟩
  | irem =>
    obtain ⟨_, _, rfl, h1⟩ := pI_ex h1
    obtain ⟨_, _, rfl, h1⟩ := pI_ex h1
    exact .inl ⟨_, _, _, _, h1.2, fun _ _ k => And.intro h1.1 k⟩
  | iand =>
    obtain ⟨_, _, rfl, h1⟩ := pI_ex h1
    obtain ⟨_, _, rfl, h1⟩ := pI_ex h1
    exact .inl ⟨_, _, _, _, h1.2, fun _ _ k => And.intro h1.1 k⟩
  | ior =>
    obtain ⟨_, _, rfl, h1⟩ := pI_ex h1
    obtain ⟨_, _, rfl, h1⟩ := pI_ex h1
    exact .inl ⟨_, _, _, _, h1.2, fun _ _ k => And.intro h1.1 k⟩
  | ixor =>
    obtain ⟨_, _, rfl, h1⟩ := pI_ex h1
    obtain ⟨_, _, rfl, h1⟩ := pI_ex h1
    exact .inl ⟨_, _, _, _, h1.2, fun _ _ k => And.intro h1.1 k⟩
  | ishl =>
    obtain ⟨_, _, rfl, h1⟩ := pI_ex h1
    obtain ⟨_, _, rfl, h1⟩ := pI_ex h1
    exact .inl ⟨_, _, _, _, h1.2, fun _ _ k => And.intro h1.1 k⟩
  | ishr =>
    obtain ⟨_, _, rfl, h1⟩ := pI_ex h1
    obtain ⟨_, _, rfl, h1⟩ := pI_ex h1
    exact .inl ⟨_, _, _, _, h1.2, fun _ _ k => And.intro h1.1 k⟩
  | i2l =>
    obtain ⟨_, _, rfl, h1⟩ := pI_ex h1
    exact .inl ⟨_, _, _, _, h1.2, fun _ _ k => And.intro h1.1 k⟩
  | i2c =>
    obtain ⟨_, _, rfl, h1⟩ := pI_ex h1
    exact .inl ⟨_, _, _, _, h1.2, fun _ _ k => And.intro h1.1 k⟩
  | l2i =>
    obtain ⟨_, _, rfl, h1⟩ := pL_ex h1
    exact .inl ⟨_, _, _, _, h1, fun _ _ k => k⟩
  | ladd =>
    obtain ⟨_, _, rfl, h1⟩ := pL_ex h1
    obtain ⟨_, _, rfl, h1⟩ := pL_ex h1
    exact .inl ⟨_, _, _, _, h1, fun _ _ k => k⟩
  | lmul =>
    obtain ⟨_, _, rfl, h1⟩ := pL_ex h1
    obtain ⟨_, _, rfl, h1⟩ := pL_ex h1
    exact .inl ⟨_, _, _, _, h1, fun _ _ k => k⟩
  | ldiv =>
    obtain ⟨_, _, rfl, h1⟩ := pL_ex h1
    obtain ⟨_, _, rfl, h1⟩ := pL_ex h1
    exact .inl ⟨_, _, _, _, h1.2, fun _ _ k => And.intro h1.1 k⟩
  | lrem =>
    obtain ⟨_, _, rfl, h1⟩ := pL_ex h1
    obtain ⟨_, _, rfl, h1⟩ := pL_ex h1
    exact .inl ⟨_, _, _, _, h1.2, fun _ _ k => And.intro h1.1 k⟩
  | lcmp =>
    obtain ⟨_, _, rfl, h1⟩ := pL_ex h1
    obtain ⟨_, _, rfl, h1⟩ := pL_ex h1
    exact .inl ⟨_, _, _, _, h1.2, fun _ _ k => And.intro h1.1 k⟩
  | dup =>
    cases st with
    | nil => exact h1.elim
    | cons v r => exact .inl ⟨_, _, _, _, h1.2, fun _ _ k => And.intro h1.1 k⟩
  | pop =>
    cases st with
    | nil => exact h1.elim
    | cons v r => exact .inl ⟨_, _, _, _, h1.2, fun _ _ k => And.intro h1.1 k⟩
  | dup2 =>
    cases st with
    | nil => exact h1.elim
    | cons v r =>
      cases r with
      | nil => exact h1.elim
      | cons w r => exact .inl ⟨_, _, _, _, h1.2.2, fun _ _ k => And.intro h1.1 (And.intro h1.2.1 k)⟩
  | goto off => exact .inl ⟨_, _, _, _, h1.2, fun _ _ k => And.intro h1.1 k⟩
  | if_icmp cd off =>
    obtain ⟨b, _, rfl, h1⟩ := pI_ex h1
    obtain ⟨a, _, rfl, ir, wb, h1⟩ := pI_ex h1
    by_cases q : cmpI cd a b = true
    · exact .inl ⟨_, _, _, _, (cmp_if h1).1 q, fun _ _ k => And.intro ir (And.intro wb (if_t q k))⟩
    · exact .inl ⟨_, _, _, _, (cmp_if h1).2 q, fun _ _ k => And.intro ir (And.intro wb (if_f q k))⟩
  | ifCond cd off =>
    obtain ⟨a, _, rfl, ir, wb, h1⟩ := pI_ex h1
    by_cases q : cmpI cd a 0 = true
    · exact .inl ⟨_, _, _, _, (cmp_if h1).1 q, fun _ _ k => And.intro ir (And.intro wb (if_t q k))⟩
    · exact .inl ⟨_, _, _, _, (cmp_if h1).2 q, fun _ _ k => And.intro ir (And.intro wb (if_f q k))⟩
  | ifnull off =>
    obtain ⟨_, _, rfl, h1⟩ := pR_ex h1
    exact .inl ⟨_, _, _, _, h1, fun _ _ k => k⟩
  | tableswitch dflt lo hi offs =>
    obtain ⟨a, _, rfl, ir, h1⟩ := pI_ex h1
    unfold tswT at h1
    by_cases q : a < lo ∨ hi < a
    · rw [if_pos q] at h1
      exact .inl ⟨_, _, _, _, h1.2, fun _ _ k => And.intro ir (if_t q (And.intro h1.1 k))⟩
    · rw [if_neg q] at h1
      split at h1
      · rename_i z hz
        refine .inl ⟨_, _, _, _, h1.2, fun _ _ k => And.intro ir (if_f q ?_)⟩
        rw [hz]
        exact And.intro h1.1 k
      · exact h1.elim
  | lookupswitch dflt ps =>
    obtain ⟨_, _, rfl, h1⟩ := pI_ex h1
    exact .inl ⟨_, _, _, _, h1.2.2.2, fun _ _ k => And.intro h1.1 (And.intro h1.2.1 (And.intro h1.2.2.1 k))⟩
  | getfield idx =>
    obtain ⟨k, r, rfl, h4⟩ := pR_ex h1
    split at h4
    · rename_i q hq
      refine .inl ⟨_, _, _, _, h4.2, fun _ _ k => ?_⟩
      simp only [wstep, pR, hq]
      exact And.intro h4.1 k
    · exact h4.elim
  | putfield idx =>
    simp only [wstep] at h1
    split at h1
    case h_2 => exact h1.elim
    case h_1 q hq =>
    obtain ⟨hp, h1⟩ := h1
    split at h1
    · rename_i hz
      obtain ⟨_, _, rfl, h1⟩ := pI_ex h1
      obtain ⟨_, _, rfl, h1⟩ := pR_ex h1
      refine .inl ⟨_, _, _, _, h1.2, fun _ _ k => ?_⟩
      simp only [wstep, hq, hz]
      exact And.intro hp (And.intro h1.1 k)
    · rename_i hz
      obtain ⟨_, _, rfl, h1⟩ := pI_ex h1
      obtain ⟨_, _, rfl, h1⟩ := pR_ex h1
      refine .inl ⟨_, _, _, _, h1.2.2, fun _ _ k => ?_⟩
      simp only [wstep, hq, hz]
      exact And.intro hp (And.intro h1.1 (And.intro h1.2.1 k))
    · rename_i hz
      obtain ⟨_, _, rfl, h1⟩ := pL_ex h1
      obtain ⟨_, _, rfl, h1⟩ := pR_ex h1
      refine .inl ⟨_, _, _, _, h1.2, fun _ _ k => ?_⟩
      simp only [wstep, hq, hz]
      exact And.intro hp (And.intro h1.1 k)
    · exact h1.elim
  | iaload =>
    obtain ⟨i, r, rfl, h4⟩ := pI_ex h1
    split at h4
    · exact .inl ⟨_, _, _, _, h4.2.2, fun _ _ k => And.intro h4.1 (And.intro h4.2.1 k)⟩
    · split at h4
      · exact .inl ⟨_, _, _, _, h4.2, fun _ _ k => And.intro h4.1 k⟩
      · exact h4.elim
    · exact h4.elim
  | baload =>
    obtain ⟨_, _, rfl, h1⟩ := pI_ex h1
    obtain ⟨_, _, rfl, h1⟩ := pR_ex h1
    exact .inl ⟨_, _, _, _, h1.2.2, fun _ _ k => And.intro h1.1 (And.intro h1.2.1 k)⟩
  | caload =>
    obtain ⟨_, _, rfl, h1⟩ := pI_ex h1
    obtain ⟨_, _, rfl, h1⟩ := pR_ex h1
    exact .inl ⟨_, _, _, _, h1.2.2, fun _ _ k => And.intro h1.1 (And.intro h1.2.1 k)⟩
  | aaload =>
    obtain ⟨_, _, rfl, h1⟩ := pI_ex h1
    obtain ⟨_, _, rfl, h1⟩ := pR_ex h1
    exact .inl ⟨_, _, _, _, h1.2.2, fun _ _ k => And.intro h1.1 (And.intro h1.2.1 k)⟩
  | iastore =>
    obtain ⟨_, _, rfl, h1⟩ := pI_ex h1
    obtain ⟨_, _, rfl, h1⟩ := pI_ex h1
    obtain ⟨_, _, rfl, h1⟩ := pR_ex h1
    exact .inl ⟨_, _, _, _, h1.2.2, fun _ _ k => And.intro h1.1 (And.intro h1.2.1 k)⟩
  | bastore =>
    obtain ⟨_, _, rfl, h1⟩ := pI_ex h1
    obtain ⟨_, _, rfl, h1⟩ := pI_ex h1
    obtain ⟨_, _, rfl, h1⟩ := pR_ex h1
    exact .inl ⟨_, _, _, _, h1.2.2.2, fun _ _ k => And.intro h1.1 (And.intro h1.2.1 (And.intro h1.2.2.1 k))⟩
  | castore =>
    obtain ⟨_, _, rfl, h1⟩ := pI_ex h1
    obtain ⟨_, _, rfl, h1⟩ := pI_ex h1
    obtain ⟨_, _, rfl, h1⟩ := pR_ex h1
    exact .inl ⟨_, _, _, _, h1.2.2.2, fun _ _ k => And.intro h1.1 (And.intro h1.2.1 (And.intro h1.2.2.1 k))⟩
  | arraylength =>
    simp only [wstep] at h1
    split at h1
    · exact .inl ⟨_, _, _, _, h1.2, fun _ _ k => And.intro h1.1 k⟩
    · split at h1
      · exact .inl ⟨_, _, _, _, h1, fun _ _ k => k⟩
      · exact h1.elim
    · exact h1.elim
  | invokestatic idx =>
    simp only [wstep, wcall] at h1
    split at h1
    · rename_i q hq
      obtain ⟨a1, a2, a3, r1, t1, c1, k1⟩ := h1
      refine .inl ⟨_, _, _, _, k1, fun _ _ k => ?_⟩
      simp only [wstep, wcall, hq]
      exact And.intro a1 (And.intro a2 (And.intro a3 (Exists.intro r1 (Exists.intro t1 (And.intro c1 k)))))
    · exact h1.elim
  | invokevirtual idx =>
    simp only [wstep, wcall] at h1
    split at h1
    · rename_i q hq
      obtain ⟨a1, a2, a3, r1, t1, c1, k1⟩ := h1
      refine .inl ⟨_, _, _, _, k1, fun _ _ k => ?_⟩
      simp only [wstep, wcall, hq]
      exact And.intro a1 (And.intro a2 (And.intro a3 (Exists.intro r1 (Exists.intro t1 (And.intro c1 k)))))
    · exact h1.elim
  | ireturn =>
    obtain ⟨_, _, rfl, h1⟩ := pI_ex h1
    exact .inr ⟨_, _, h1.2.2, fun _ _ k => And.intro h1.1 (And.intro h1.2.1 k)⟩
  | lreturn =>
    obtain ⟨_, _, rfl, h1⟩ := pL_ex h1
    exact .inr ⟨_, _, h1.2.2, fun _ _ k => And.intro h1.1 (And.intro h1.2.1 k)⟩
  | return_ => exact .inr ⟨_, _, h1.2.2, fun _ _ k => And.intro h1.1 (And.intro h1.2.1 k)⟩
  | _ => exact False.elim h1
theorem wp_ex {X : XS} {C : Nat → List AV → SG → AV → SG → Prop} {y : Nat} {Q : AV → SG → Prop} : ∀ (n pc : Nat) (ls st : List AV) (σ : SG), wp X (calC C) n y pc ls st σ Q → ∃ r σ', Q r σ' ∧ wp X (calC C) n y pc ls st σ (fun r1 σ1 => r1 = r ∧ σ1 = σ') := by
  intro n
  induction n with
  | zero => intro pc ls st σ h; exact h.elim
  | succ n ih =>
    intro pc ls st σ h
    unfold wp at h
    split at h
    · rename_i i len hd
      obtain ⟨ho, h⟩ := h
      rcases wstep_lin h with ⟨pc', ls', st', σ', k, f⟩ | ⟨r, σ', q, f⟩
      · obtain ⟨r, σ2, q, k2⟩ := ih _ _ _ _ k
        refine ⟨r, σ2, q, ?_⟩
        unfold wp
        rw [hd]
        exact ⟨ho, f _ _ k2⟩
      · refine ⟨r, σ', q, ?_⟩
        unfold wp
        rw [hd]
        exact ⟨ho, f _ _ ⟨rfl, rfl⟩⟩
    · exact h.elim
theorem wp_mo {X : XS} {C : Nat → List AV → SG → AV → SG → Prop} {y : Nat} {Q Q2 : AV → SG → Prop} (hq : ∀ r σ, Q r σ → Q2 r σ) : ∀ (n pc : Nat) (ls st : List AV) (σ : SG), wp X (calC C) n y pc ls st σ Q → wp X (calC C) n y pc ls st σ Q2 := by
  intro n
  induction n with
  | zero => intro pc ls st σ h; exact h.elim
  | succ n ih =>
    intro pc ls st σ h
    unfold wp at h ⊢
    split at h
    · rename_i i len hd
      obtain ⟨ho, h⟩ := h
      rcases wstep_lin h with ⟨pc', ls', st', σ', k, f⟩ | ⟨r, σ', q, f⟩
      · exact ⟨ho, f _ _ (ih _ _ _ _ k)⟩
      · exact ⟨ho, f _ _ (hq _ _ q)⟩
    · exact h.elim
theorem Wp_mo {X : XS} {d y pc : Nat} {ls st : List AV} {σ : SG} {Q Q2 : AV → SG → Prop} (h : Wp X d y pc ls st σ Q) (hq : ∀ r σ, Q r σ → Q2 r σ) : Wp X d y pc ls st σ Q2 := by
  obtain ⟨n, h⟩ := h
  exact ⟨n, wp_mo hq _ _ _ _ _ h⟩
theorem Cal_ex {d y na ml : Nat} {hl : Bool} {args ls : List AV} {σ : SG} {P : AV → SG → Prop} (hy : decide (y < 204) = true) (hna : mna y = na) (hml : mml y = ml) (hhl : mhl y = hl) (ha : (decide (args.length = na) && decide ((lsE args).length ≤ ml) && (hl || args.all fun v => !isL v)) = true) (hls : lsE args ++ List.replicate (ml - (lsE args).length) aU = ls)
    (h : Wp none d y 0 ls [] σ P) : ∃ r σ', Cal (d + 1) y args σ r σ' ∧ P r σ' := by
  obtain ⟨n, h⟩ := h
  obtain ⟨r, σ', q, k⟩ := wp_ex _ _ _ _ _ h
  exact ⟨r, σ', Cal_in hy hna hml hhl ha hls ⟨n, k⟩, q⟩
/-- the method answers, and P of what it answers and leaves -/
def CalE (d y : Nat) (args : List AV) (σ : SG) (P : AV → SG → Prop) : Prop := ∃ r σ', Cal d y args σ r σ' ∧ P r σ'
theorem CalK_E {d y : Nat} {args : List AV} {σ : SG} {P K : AV → SG → Prop} (h : CalE d y args σ P) (hk : ∀ r σ', P r σ' → K r σ') : CalK d y args σ K := by
  obtain ⟨r, σ', h1, h2⟩ := h
  exact ⟨r, σ', h1, hk r σ' h2⟩
theorem CalE_of {d y : Nat} {args : List AV} {σ σ' : SG} {r : AV} {P : AV → SG → Prop} (h : Cal d y args σ r σ') (hp : P r σ') : CalE d y args σ P := ⟨r, σ', h, hp⟩
theorem one0 : ((1 : Int) = 0) = False := eq_false (by decide)
