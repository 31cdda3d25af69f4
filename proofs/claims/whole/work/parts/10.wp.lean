-- the plain machine is single-valued; Wp, and its rows
set_option maxHeartbeats 4000000 in
set_option maxRecDepth 100000 in
theorem wstep_two {X : XS} {C : Nat → List AV → SG → AV → SG → Prop} (hC : ∀ y a σ r1 t1 r2 t2, C y a σ r1 t1 → C y a σ r2 t2 → r1 = r2 ∧ t1 = t2) {y pc : Nat} {ls st : List AV} {σ : SG} {Q1 Q2 : AV → SG → Prop} {K1 K2 : Nat → List AV → List AV → SG → Prop} {i : Instr} {P : Prop}
    (hk : ∀ pc ls st σ, K1 pc ls st σ → K2 pc ls st σ → P) (hq : ∀ r σ, Q1 r σ → Q2 r σ → P) (h1 : wstep X (calC C) y pc ls st σ Q1 K1 i) (h2 : wstep X (calC C) y pc ls st σ Q2 K2 i) : P := by
  cases i with
  | iconst v =>
    exact hk _ _ _ _ h1.2 h2.2
  | bipush v =>
    exact hk _ _ _ _ h1.2 h2.2
  | sipush v =>
    exact hk _ _ _ _ h1.2 h2.2
  | lconst v =>
    exact hk _ _ _ _ h1 h2
  | ldc idx =>
    simp only [wstep] at h1 h2
    split at h1
    · rename_i q hq
      rw [hq] at h2
      exact hk _ _ _ _ h1 h2
    · rename_i hq
      rw [hq] at h2
      split at h1
      · rename_i q hq2
        rw [hq2] at h2
        exact hk _ _ _ _ h1 h2
      · exact h1.elim
  | ldc_w idx =>
    simp only [wstep] at h1 h2
    split at h1
    · rename_i q hq
      rw [hq] at h2
      exact hk _ _ _ _ h1 h2
    · exact h1.elim
  | ldc2_w idx =>
    simp only [wstep] at h1 h2
    split at h1
    · rename_i q hq
      rw [hq] at h2
      exact hk _ _ _ _ h1 h2
    · exact h1.elim
  | iload_n k =>
    obtain ⟨a, e, h1⟩ := lI_ex h1
    simp only [wstep, lI, e] at h2
    exact hk _ _ _ _ h1 h2
  | iload k =>
    obtain ⟨a, e, h1⟩ := lI_ex h1
    simp only [wstep, lI, e] at h2
    exact hk _ _ _ _ h1 h2
  | lload_n k =>
    obtain ⟨a, e, h1⟩ := lL_ex h1
    simp only [wstep, lL, e] at h2
    exact hk _ _ _ _ h1 h2
  | lload k =>
    obtain ⟨a, e, h1⟩ := lL_ex h1
    simp only [wstep, lL, e] at h2
    exact hk _ _ _ _ h1 h2
  | aload_n k =>
    simp only [wstep, lA] at h1 h2
    split at h1
    · rename_i e
      rw [e] at h2
      exact hk _ _ _ _ h1 h2
    · rename_i e
      rw [e] at h2
      exact hk _ _ _ _ h1 h2
    · exact h1.elim
  | aload k =>
    simp only [wstep, lA] at h1 h2
    split at h1
    · rename_i e
      rw [e] at h2
      exact hk _ _ _ _ h1 h2
    · rename_i e
      rw [e] at h2
      exact hk _ _ _ _ h1 h2
    · exact h1.elim
  | istore_n k =>
    obtain ⟨_, _, rfl, h1⟩ := pI_ex h1
    exact hk _ _ _ _ h1.2.2 h2.2.2
  | istore k =>
    obtain ⟨_, _, rfl, h1⟩ := pI_ex h1
    exact hk _ _ _ _ h1.2.2 h2.2.2
  | astore_n k =>
    obtain ⟨_, _, rfl, h1⟩ := pR_ex h1
    exact hk _ _ _ _ h1.2.2 h2.2.2
  | astore k =>
    obtain ⟨_, _, rfl, h1⟩ := pR_ex h1
    exact hk _ _ _ _ h1.2.2 h2.2.2
  | lstore_n k =>
    obtain ⟨_, _, rfl, h1⟩ := pL_ex h1
    exact hk _ _ _ _ h1.2.2.2 h2.2.2.2
  | lstore k =>
    obtain ⟨_, _, rfl, h1⟩ := pL_ex h1
    exact hk _ _ _ _ h1.2.2.2 h2.2.2.2
  | iinc k v =>
    obtain ⟨a, e, h1⟩ := lI_ex h1
    simp only [wstep, lI, e] at h2
    exact hk _ _ _ _ h1.2.2 h2.2.2
  | iadd =>
    obtain ⟨_, _, rfl, h1⟩ := pI_ex h1
    obtain ⟨_, _, rfl, h1⟩ := pI_ex h1
    exact hk _ _ _ _ h1 h2
  | isub =>
    obtain ⟨_, _, rfl, h1⟩ := pI_ex h1
    obtain ⟨_, _, rfl, h1⟩ := pI_ex h1
    exact hk _ _ _ _ h1 h2
  | imul =>
    obtain ⟨_, _, rfl, h1⟩ := pI_ex h1
    obtain ⟨_, _, rfl, h1⟩ := pI_ex h1
    exact hk _ _ _ _ h1 h2
  | idiv =>
    obtain ⟨_, _, rfl, h1⟩ := pI_ex h1
    obtain ⟨_, _, rfl, h1⟩ := pI_ex h1
    exact hk _ _ _ _ h1.2 h2.2
  | irem =>
    obtain ⟨_, _, rfl, h1⟩ := pI_ex h1
    obtain ⟨_, _, rfl, h1⟩ := pI_ex h1
    exact hk _ _ _ _ h1.2 h2.2
  | iand =>
    obtain ⟨_, _, rfl, h1⟩ := pI_ex h1
    obtain ⟨_, _, rfl, h1⟩ := pI_ex h1
    exact hk _ _ _ _ h1.2 h2.2
  | ior =>
    obtain ⟨_, _, rfl, h1⟩ := pI_ex h1
    obtain ⟨_, _, rfl, h1⟩ := pI_ex h1
    exact hk _ _ _ _ h1.2 h2.2
  | ixor =>
    obtain ⟨_, _, rfl, h1⟩ := pI_ex h1
    obtain ⟨_, _, rfl, h1⟩ := pI_ex h1
    exact hk _ _ _ _ h1.2 h2.2
  | ishl =>
    obtain ⟨_, _, rfl, h1⟩ := pI_ex h1
    obtain ⟨_, _, rfl, h1⟩ := pI_ex h1
    exact hk _ _ _ _ h1.2 h2.2
  | ishr =>
    obtain ⟨_, _, rfl, h1⟩ := pI_ex h1
    obtain ⟨_, _, rfl, h1⟩ := pI_ex h1
    exact hk _ _ _ _ h1.2 h2.2
  | i2l =>
    obtain ⟨_, _, rfl, h1⟩ := pI_ex h1
    exact hk _ _ _ _ h1.2 h2.2
  | i2c =>
    obtain ⟨_, _, rfl, h1⟩ := pI_ex h1
    exact hk _ _ _ _ h1.2 h2.2
  | l2i =>
    obtain ⟨_, _, rfl, h1⟩ := pL_ex h1
    exact hk _ _ _ _ h1 h2
  | ladd =>
    obtain ⟨_, _, rfl, h1⟩ := pL_ex h1
    obtain ⟨_, _, rfl, h1⟩ := pL_ex h1
    exact hk _ _ _ _ h1 h2
  | lmul =>
    obtain ⟨_, _, rfl, h1⟩ := pL_ex h1
    obtain ⟨_, _, rfl, h1⟩ := pL_ex h1
    exact hk _ _ _ _ h1 h2
  | ldiv =>
    obtain ⟨_, _, rfl, h1⟩ := pL_ex h1
    obtain ⟨_, _, rfl, h1⟩ := pL_ex h1
    exact hk _ _ _ _ h1.2 h2.2
  | lrem =>
    obtain ⟨_, _, rfl, h1⟩ := pL_ex h1
    obtain ⟨_, _, rfl, h1⟩ := pL_ex h1
    exact hk _ _ _ _ h1.2 h2.2
  | lcmp =>
    obtain ⟨_, _, rfl, h1⟩ := pL_ex h1
    obtain ⟨_, _, rfl, h1⟩ := pL_ex h1
    exact hk _ _ _ _ h1.2 h2.2
  | dup =>
    cases st with
    | nil => exact h1.elim
    | cons v r => exact hk _ _ _ _ h1.2 h2.2
  | pop =>
    cases st with
    | nil => exact h1.elim
    | cons v r => exact hk _ _ _ _ h1.2 h2.2
  | dup2 =>
    cases st with
    | nil => exact h1.elim
    | cons v r =>
      cases r with
      | nil => exact h1.elim
      | cons w r => exact hk _ _ _ _ h1.2.2 h2.2.2
  | goto off =>
    exact hk _ _ _ _ h1.2 h2.2
  | if_icmp cd off =>
    obtain ⟨b, _, rfl, h1⟩ := pI_ex h1
    obtain ⟨a, _, rfl, _, _, h1⟩ := pI_ex h1
    have h3 := h2.2.2
    by_cases q : cmpI cd a b = true
    · exact hk _ _ _ _ ((cmp_if h1).1 q) ((cmp_if h3).1 q)
    · exact hk _ _ _ _ ((cmp_if h1).2 q) ((cmp_if h3).2 q)
  | ifCond cd off =>
    obtain ⟨a, _, rfl, _, _, h1⟩ := pI_ex h1
    have h3 := h2.2.2
    by_cases q : cmpI cd a 0 = true
    · exact hk _ _ _ _ ((cmp_if h1).1 q) ((cmp_if h3).1 q)
    · exact hk _ _ _ _ ((cmp_if h1).2 q) ((cmp_if h3).2 q)
  | ifnull off =>
    obtain ⟨_, _, rfl, h1⟩ := pR_ex h1
    exact hk _ _ _ _ h1 h2
  | tableswitch dflt lo hi offs =>
    obtain ⟨a, _, rfl, _, h1⟩ := pI_ex h1
    have h3 := h2.2
    unfold tswT at h1 h3
    by_cases q : a < lo ∨ hi < a
    · rw [if_pos q] at h1 h3
      exact hk _ _ _ _ h1.2 h3.2
    · rw [if_neg q] at h1 h3
      split at h1
      · rename_i z hz
        rw [hz] at h3
        exact hk _ _ _ _ h1.2 h3.2
      · exact h1.elim
  | lookupswitch dflt ps =>
    obtain ⟨_, _, rfl, h1⟩ := pI_ex h1
    exact hk _ _ _ _ h1.2.2.2 h2.2.2.2
  | getfield idx =>
    obtain ⟨k, r, rfl, h4⟩ := pR_ex h1
    simp only [wstep, pR] at h2
    split at h4
    · rename_i q hq
      rw [hq] at h2
      exact hk _ _ _ _ h4.2 h2.2
    · exact h4.elim
  | putfield idx =>
    simp only [wstep] at h1 h2
    split at h1
    case h_2 => exact h1.elim
    case h_1 q hq =>
    rw [hq] at h2
    obtain ⟨_, h1⟩ := h1
    obtain ⟨_, h2⟩ := h2
    split at h1
    · rename_i hz
      rw [hz] at h2
      obtain ⟨_, _, rfl, h1⟩ := pI_ex h1
      obtain ⟨_, _, rfl, h1⟩ := pR_ex h1
      exact hk _ _ _ _ h1.2 h2.2
    · rename_i hz
      rw [hz] at h2
      obtain ⟨_, _, rfl, h1⟩ := pI_ex h1
      obtain ⟨_, _, rfl, h1⟩ := pR_ex h1
      exact hk _ _ _ _ h1.2.2 h2.2.2
    · rename_i hz
      rw [hz] at h2
      obtain ⟨_, _, rfl, h1⟩ := pL_ex h1
      obtain ⟨_, _, rfl, h1⟩ := pR_ex h1
      exact hk _ _ _ _ h1.2 h2.2
    · exact h1.elim
  | iaload =>
    obtain ⟨i, r, rfl, h4⟩ := pI_ex h1
    simp only [wstep, pI] at h2
    split at h4
    · exact hk _ _ _ _ h4.2.2 h2.2.2
    · split at h4
      · exact hk _ _ _ _ h4.2 h2.2
      · exact h4.elim
    · exact h4.elim
  | baload =>
    obtain ⟨_, _, rfl, h1⟩ := pI_ex h1
    obtain ⟨_, _, rfl, h1⟩ := pR_ex h1
    exact hk _ _ _ _ h1.2.2 h2.2.2
  | caload =>
    obtain ⟨_, _, rfl, h1⟩ := pI_ex h1
    obtain ⟨_, _, rfl, h1⟩ := pR_ex h1
    exact hk _ _ _ _ h1.2.2 h2.2.2
  | aaload =>
    obtain ⟨_, _, rfl, h1⟩ := pI_ex h1
    obtain ⟨_, _, rfl, h1⟩ := pR_ex h1
    exact hk _ _ _ _ h1.2.2 h2.2.2
  | iastore =>
    obtain ⟨_, _, rfl, h1⟩ := pI_ex h1
    obtain ⟨_, _, rfl, h1⟩ := pI_ex h1
    obtain ⟨_, _, rfl, h1⟩ := pR_ex h1
    exact hk _ _ _ _ h1.2.2 h2.2.2
  | bastore =>
    obtain ⟨_, _, rfl, h1⟩ := pI_ex h1
    obtain ⟨_, _, rfl, h1⟩ := pI_ex h1
    obtain ⟨_, _, rfl, h1⟩ := pR_ex h1
    exact hk _ _ _ _ h1.2.2.2 h2.2.2.2
  | castore =>
    obtain ⟨_, _, rfl, h1⟩ := pI_ex h1
    obtain ⟨_, _, rfl, h1⟩ := pI_ex h1
    obtain ⟨_, _, rfl, h1⟩ := pR_ex h1
    exact hk _ _ _ _ h1.2.2.2 h2.2.2.2
  | arraylength =>
    simp only [wstep] at h1
    split at h1
    · exact hk _ _ _ _ h1.2 h2.2
    · split at h1
      · exact hk _ _ _ _ h1 h2
      · exact h1.elim
    · exact h1.elim
  | invokestatic idx =>
    simp only [wstep, wcall] at h1 h2
    split at h1
    · rename_i q hq
      rw [hq] at h2
      obtain ⟨_, _, _, r1, t1, c1, k1⟩ := h1
      obtain ⟨_, _, _, r2, t2, c2, k2⟩ := h2
      obtain ⟨rfl, rfl⟩ := hC _ _ _ _ _ _ _ c1 c2
      exact hk _ _ _ _ k1 k2
    · exact h1.elim
  | invokevirtual idx =>
    simp only [wstep, wcall] at h1 h2
    split at h1
    · rename_i q hq
      rw [hq] at h2
      obtain ⟨_, _, _, r1, t1, c1, k1⟩ := h1
      obtain ⟨_, _, _, r2, t2, c2, k2⟩ := h2
      obtain ⟨rfl, rfl⟩ := hC _ _ _ _ _ _ _ c1 c2
      exact hk _ _ _ _ k1 k2
    · exact h1.elim
  | ireturn =>
    obtain ⟨_, _, rfl, h1⟩ := pI_ex h1
    exact hq _ _ h1.2.2 h2.2.2
  | lreturn =>
    obtain ⟨_, _, rfl, h1⟩ := pL_ex h1
    exact hq _ _ h1.2.2 h2.2.2
  | return_ =>
    exact hq _ _ h1.2.2 h2.2.2
  | _ =>
    exact False.elim h1
theorem wp_two {X : XS} {C : Nat → List AV → SG → AV → SG → Prop} (hC : ∀ y a σ r1 t1 r2 t2, C y a σ r1 t1 → C y a σ r2 t2 → r1 = r2 ∧ t1 = t2) {y : Nat} {Q1 Q2 : AV → SG → Prop} {P : Prop} (hq : ∀ r σ, Q1 r σ → Q2 r σ → P) :
    ∀ (n1 n2 pc : Nat) (ls st : List AV) (σ : SG), wp X (calC C) n1 y pc ls st σ Q1 → wp X (calC C) n2 y pc ls st σ Q2 → P := by
  intro n1
  induction n1 with
  | zero => intro n2 pc ls st σ h1; exact h1.elim
  | succ n1 ih =>
    intro n2 pc ls st σ h1 h2
    cases n2 with
    | zero => exact h2.elim
    | succ n2 =>
      unfold wp at h1 h2
      split at h1
      · rename_i i len hd
        rw [hd] at h2
        exact wstep_two hC (fun pc ls st σ a b => ih n2 pc ls st σ a b) hq h1.2 h2.2
      · exact h1.elim
theorem bi_two {y : Nat} {a : List AV} {σ : SG} {r1 r2 : AV} {t1 t2 : SG} (h1 : biC y a σ r1 t1) (h2 : biC y a σ r2 t2) : r1 = r2 ∧ t1 = t2 := by
  rcases h1 with ⟨e1, i, _, ea, er, et⟩ | ⟨e1, i, k, _, _, ea, er, et⟩ <;> rcases h2 with ⟨f1, i', _, fa, fr, ft⟩ | ⟨f1, i', k', _, _, fa, fr, ft⟩
  · rw [ea] at fa
    injection fa with fa _
    injection fa with fa
    injection fa with fa
    injection fa with fa
    have : i = i' := by omega
    subst this
    exact ⟨er.trans fr.symm, et.trans ft.symm⟩
  · omega
  · omega
  · rw [ea] at fa
    injection fa with fa fb
    injection fa with fa
    injection fa with fa
    injection fa with fa
    injection fb with fb _
    injection fb with fb
    have e1 : i = i' := by omega
    have e2 : k = k' := by omega
    subst e1; subst e2
    exact ⟨er.trans fr.symm, et.trans ft.symm⟩
theorem bi_big {y : Nat} {a : List AV} {σ t : SG} {r : AV} (h : biC y a σ r t) : 204 < y := by
  rcases h with ⟨e, _⟩ | ⟨e, _⟩ <;> omega
theorem cal_two : ∀ (d : Nat) (y : Nat) (a : List AV) (σ : SG) (r1 : AV) (t1 : SG) (r2 : AV) (t2 : SG), Cal d y a σ r1 t1 → Cal d y a σ r2 t2 → r1 = r2 ∧ t1 = t2 := by
  intro d
  induction d with
  | zero => intro y a σ r1 t1 r2 t2 h; exact h.elim
  | succ d ih =>
    intro y a σ r1 t1 r2 t2 h1 h2
    rcases h1 with h1 | ⟨y1, _, _, _, n1, h1⟩ <;> rcases h2 with h2 | ⟨y2, _, _, _, n2, h2⟩
    · exact bi_two h1 h2
    · have := bi_big h1; omega
    · have := bi_big h2; omega
    · exact wp_two ih (P := r1 = r2 ∧ t1 = t2) (fun r σ q1 q2 => ⟨q1.1.symm.trans q2.1, q1.2.symm.trans q2.2⟩) n1 n2 0 _ _ _ h1 h2
def Wp (X : XS) (d y pc : Nat) (ls st : List AV) (σ : SG) (Q : AV → SG → Prop) : Prop := ∃ n, wp X (calC (Cal d)) n y pc ls st σ Q
def CalK (d y : Nat) (args : List AV) (σ : SG) (K : AV → SG → Prop) : Prop := calC (Cal d) y args σ K
theorem CalK_eq {d y : Nat} {args : List AV} {σ σ' : SG} {r : AV} {K : AV → SG → Prop} (h : Cal d y args σ r σ') : CalK d y args σ K = K r σ' := by
  apply propext
  constructor
  · rintro ⟨r2, t2, h2, hk⟩
    obtain ⟨rfl, rfl⟩ := cal_two _ _ _ _ _ _ _ _ h h2
    exact hk
  · intro hk
    exact ⟨_, _, h, hk⟩
theorem Cal_in {d y na ml : Nat} {hl : Bool} {args ls : List AV} {σ σ' : SG} {r : AV} (hy : decide (y < 204) = true) (hna : mna y = na) (hml : mml y = ml) (hhl : mhl y = hl) (ha : (decide (args.length = na) && decide ((lsE args).length ≤ ml) && (hl || args.all (fun v => !isL v))) = true) (hls : lsE args ++ List.replicate (ml - (lsE args).length) aU = ls)
    (h : Wp none d y 0 ls [] σ (fun r1 σ1 => r1 = r ∧ σ1 = σ')) : Cal (d + 1) y args σ r σ' := by
  simp only [Bool.and_eq_true, decide_eq_true_eq] at hy ha
  obtain ⟨⟨h2, h4⟩, h5⟩ := ha
  subst hml
  subst hls
  refine Or.inr ⟨hy, by rw [h2, hna], h4, fun hm v hv => ?_, h⟩
  rw [← hhl, hm, Bool.false_or] at h5
  simpa using List.all_eq_true.mp h5 v hv
theorem Wp_dec {X : XS} {d y pc n : Nat} {ls st : List AV} {σ : SG} {Q : AV → SG → Prop} {i : Instr} (hd : decode (mcd y) pc = .ok (i, n)) (hn : okL i n = true) :
    Wp X d y pc ls st σ Q = ∃ m, wstep X (calC (Cal d)) y pc ls st σ Q (fun pc' ls' st' σ' => wp X (calC (Cal d)) m y pc' ls' st' σ' Q) i := by
  apply propext
  constructor
  · rintro ⟨k, h⟩
    cases k with
    | zero => exact h.elim
    | succ k =>
      unfold wp at h
      rw [hd] at h
      exact ⟨k, h.2⟩
  · rintro ⟨k, h⟩
    refine ⟨k + 1, ?_⟩
    unfold wp
    rw [hd]
    exact ⟨hn, h⟩
/-- a row that goes on at one place -/
theorem Wp_go {X : XS} {d y pc n pc' : Nat} {ls st ls' st' : List AV} {σ σ' : SG} {Q : AV → SG → Prop} {i : Instr} {c : Prop} (hd : decode (mcd y) pc = .ok (i, n)) (hn : okL i n = true) (hc : c)
    (h : ∀ K, wstep X (calC (Cal d)) y pc ls st σ Q K i = (c ∧ K pc' ls' st' σ')) : Wp X d y pc ls st σ Q = Wp X d y pc' ls' st' σ' Q := by
  rw [Wp_dec hd hn]
  simp only [h, hc, true_and]
  rfl
theorem Wp_go0 {X : XS} {d y pc n pc' : Nat} {ls st ls' st' : List AV} {σ σ' : SG} {Q : AV → SG → Prop} {i : Instr} (hd : decode (mcd y) pc = .ok (i, n)) (hn : okL i n = true)
    (h : ∀ K, wstep X (calC (Cal d)) y pc ls st σ Q K i = K pc' ls' st' σ') : Wp X d y pc ls st σ Q = Wp X d y pc' ls' st' σ' Q := by
  rw [Wp_dec hd hn]
  simp only [h]
  rfl
def ga (σ : SG) (k : Nat) (i : Int) : Int := gg σ k i.toNat
def ua (σ : SG) (k : Nat) (i v : Int) : SG := ug σ k i.toNat v
theorem and4 {a b c k : Prop} : (a ∧ b ∧ c ∧ k) = ((a ∧ b ∧ c) ∧ k) := propext ⟨fun h => ⟨⟨h.1, h.2.1, h.2.2.1⟩, h.2.2.2⟩, fun h => ⟨h.1.1, h.1.2.1, h.1.2.2, h.2⟩⟩
theorem Wp_and {X : XS} {d y pc : Nat} {ls st : List AV} {σ : SG} {Q : AV → SG → Prop} {a b : Int} (hd : decode (mcd y) pc = .ok (.iand, 1)) (h0 : ¬ b = 63) (h1 : 0 ≤ a) (h2 : a < 2147483648) (h3 : -2147483648 ≤ b) (h4 : b < 2147483648) :
    Wp X d y pc ls (.inl b :: .inl a :: st) σ Q = Wp X d y (pc + 1) ls (.inl (if 0 ≤ b then ((a.toNat &&& b.toNat : Nat) : Int) else a - ((a.toNat &&& (-b - 1).toNat : Nat) : Int)) :: st) σ Q := by
  refine Wp_go (c := b = 63 ∨ (0 ≤ a ∧ a < 2147483648 ∧ -2147483648 ≤ b ∧ b < 2147483648)) hd rfl (Or.inr ⟨h1, h2, h3, h4⟩) (fun K => ?_)
  simp only [wstep, pI, if_neg h0]
theorem ex_ite {c : Prop} [Decidable c] {A B : Nat → Prop} : (∃ m, if c then A m else B m) = if c then ∃ m, A m else ∃ m, B m := by
  split <;> rfl
theorem Wp_icmp {X : XS} {d y pc t : Nat} {ls st : List AV} {σ : SG} {Q : AV → SG → Prop} {cd : ClassFile.Cond} {off : Int} {a b : Int} (hd : decode (mcd y) pc = .ok (.if_icmp cd off, 3)) (ht : (pc : Int) + off = (t : Int)) (ha : InR a) (hb : InR b) :
    Wp X d y pc ls (.inl b :: .inl a :: st) σ Q = if cmpI cd a b = true then Wp X d y t ls st σ Q else Wp X d y (pc + 3) ls st σ Q := by
  rw [Wp_dec hd rfl]
  have e : ((pc : Int) + off).toNat = t := by rw [ht]; rfl
  have e2 : 0 ≤ (pc : Int) + off := by rw [ht]; exact Int.natCast_nonneg t
  simp only [wstep, pI, wbr, e, e2, ha, hb, and_self, true_and]
  exact ex_ite
theorem Wp_ifc {X : XS} {d y pc t : Nat} {ls st : List AV} {σ : SG} {Q : AV → SG → Prop} {cd : ClassFile.Cond} {off : Int} {a : Int} (hd : decode (mcd y) pc = .ok (.ifCond cd off, 3)) (ht : (pc : Int) + off = (t : Int)) (ha : InR a) :
    Wp X d y pc ls (.inl a :: st) σ Q = if cmpI cd a 0 = true then Wp X d y t ls st σ Q else Wp X d y (pc + 3) ls st σ Q := by
  rw [Wp_dec hd rfl]
  have e : ((pc : Int) + off).toNat = t := by rw [ht]; rfl
  have e2 : 0 ≤ (pc : Int) + off := by rw [ht]; exact Int.natCast_nonneg t
  simp only [wstep, pI, wbr, e, e2, ha, true_and]
  exact ex_ite
theorem Wp_goto {X : XS} {d y pc t : Nat} {ls st : List AV} {σ : SG} {Q : AV → SG → Prop} {off : Int} (hd : decode (mcd y) pc = .ok (.goto off, 3)) (ht : (pc : Int) + off = (t : Int)) :
    Wp X d y pc ls st σ Q = Wp X d y t ls st σ Q := by
  rw [Wp_dec hd rfl]
  have e : ((pc : Int) + off).toNat = t := by rw [ht]; rfl
  have e2 : 0 ≤ (pc : Int) + off := by rw [ht]; exact Int.natCast_nonneg t
  simp only [wstep, wbr, e, e2, true_and]
  rfl
theorem Wp_tsw {X : XS} {d y pc t n : Nat} {ls st : List AV} {σ : SG} {Q : AV → SG → Prop} {dflt lo hi o : Int} {offs : Array Int} {a : Int} (hd : decode (mcd y) pc = .ok (.tableswitch dflt lo hi offs, n)) (h1 : ¬ (a < lo ∨ hi < a)) (ho : offs[(a - lo).toNat]? = some o) (ht : (pc : Int) + o = (t : Int)) (ha : InR a) :
    Wp X d y pc ls (.inl a :: st) σ Q = Wp X d y t ls st σ Q := by
  rw [Wp_dec hd rfl]
  have e : ((pc : Int) + o).toNat = t := by rw [ht]; rfl
  have e2 : 0 ≤ (pc : Int) + o := by rw [ht]; exact Int.natCast_nonneg t
  simp only [wstep, pI, tswT, if_neg h1, ho, wbr, e, e2, ha, true_and]
  rfl
theorem Wp_tswD {X : XS} {d y pc t n : Nat} {ls st : List AV} {σ : SG} {Q : AV → SG → Prop} {dflt lo hi : Int} {offs : Array Int} {a : Int} (hd : decode (mcd y) pc = .ok (.tableswitch dflt lo hi offs, n)) (h1 : a < lo ∨ hi < a) (ht : (pc : Int) + dflt = (t : Int)) (ha : InR a) :
    Wp X d y pc ls (.inl a :: st) σ Q = Wp X d y t ls st σ Q := by
  rw [Wp_dec hd rfl]
  have e : ((pc : Int) + dflt).toNat = t := by rw [ht]; rfl
  have e2 : 0 ≤ (pc : Int) + dflt := by rw [ht]; exact Int.natCast_nonneg t
  simp only [wstep, pI, tswT, if_pos h1, wbr, e, e2, ha, true_and]
  rfl
theorem Wp_lsw {X : XS} {d y pc t n : Nat} {ls st : List AV} {σ : SG} {Q : AV → SG → Prop} {dflt : Int} {ps : Array (Int × Int)} {a : Int} (hd : decode (mcd y) pc = .ok (.lookupswitch dflt ps, n)) (hp : (ps.toList.zip (ps.toList.drop 1)).all (fun (a, next) => a.1 < next.1) = true) (ht : (pc : Int) + Op.lookupswitch.offset ps.toList dflt a = (t : Int)) (ha : InR a) :
    Wp X d y pc ls (.inl a :: st) σ Q = Wp X d y t ls st σ Q := by
  rw [Wp_dec hd rfl]
  have e : ((pc : Int) + Op.lookupswitch.offset ps.toList dflt a).toNat = t := by rw [ht]; rfl
  have e2 : 0 ≤ (pc : Int) + Op.lookupswitch.offset ps.toList dflt a := by rw [ht]; exact Int.natCast_nonneg t
  simp only [wstep, pI, hp, wbr, e, e2, ha, true_and]
  rfl
theorem Wp_getI {X : XS} {d y pc idx o k ci j fi ne po : Nat} {ls st : List AV} {σ : SG} {Q : AV → SG → Prop} (hd : decode (mcd y) pc = .ok (.getfield idx, 3)) (ho : mow y = o) (hf : frF o idx = some (o, idx, ci, j, fi, ne, po)) (ht : (cft ci).getD j 0 < 2) (hk : shC k = ci) :
    Wp X d y pc ls (.inr (.inr (.inl k)) :: st) σ Q = Wp X d y (pc + 3) ls (.inl (gg σ k j) :: st) σ Q := by
  rw [Wp_dec hd rfl]
  have e : fAV σ k j = .inl (gg σ k j) := by
    unfold fAV
    rw [hk]
    split
    · omega
    · omega
    · rfl
  simp only [wstep, pR, ho, hf, hk, true_and, e]
  rfl
theorem Wp_getL {X : XS} {d y pc idx o k ci j fi ne po : Nat} {ls st : List AV} {σ : SG} {Q : AV → SG → Prop} (hd : decode (mcd y) pc = .ok (.getfield idx, 3)) (ho : mow y = o) (hf : frF o idx = some (o, idx, ci, j, fi, ne, po)) (ht : (cft ci).getD j 0 = 2) (hk : shC k = ci) :
    Wp X d y pc ls (.inr (.inr (.inl k)) :: st) σ Q = Wp X d y (pc + 3) ls (.inr (.inl (gl σ k j)) :: st) σ Q := by
  rw [Wp_dec hd rfl]
  have e : fAV σ k j = .inr (.inl (gl σ k j)) := by
    unfold fAV
    rw [hk, ht]
    rfl
  simp only [wstep, pR, ho, hf, hk, true_and, e]
  rfl
theorem Wp_getR {X : XS} {d y pc idx o k ci j fi ne po : Nat} {ls st : List AV} {σ : SG} {Q : AV → SG → Prop} (hd : decode (mcd y) pc = .ok (.getfield idx, 3)) (ho : mow y = o) (hf : frF o idx = some (o, idx, ci, j, fi, ne, po)) (ht : (cft ci).getD j 0 = 3) (hk : shC k = ci) :
    Wp X d y pc ls (.inr (.inr (.inl k)) :: st) σ Q = Wp X d y (pc + 3) ls (.inr (.inr (.inl (shR k j))) :: st) σ Q := by
  rw [Wp_dec hd rfl]
  have e : fAV σ k j = .inr (.inr (.inl (shR k j))) := by
    unfold fAV
    rw [hk, ht]
    rfl
  simp only [wstep, pR, ho, hf, hk, true_and, e]
  rfl
theorem Wp_putI {X : XS} {d y pc idx o k ci j ne po : Nat} {v : Int} {ls st : List AV} {σ : SG} {Q : AV → SG → Prop} (hd : decode (mcd y) pc = .ok (.putfield idx, 3)) (ho : mow y = o) (hf : frF o idx = some (o, idx, ci, j, 0, ne, po)) (ht : (cft ci).getD j 0 = 0) (hk : shC k = ci) :
    Wp X d y pc ls (.inl v :: .inr (.inr (.inl k)) :: st) σ Q = Wp X d y (pc + 3) ls st (ug σ k j v) Q := by
  rw [Wp_dec hd rfl]
  simp only [wstep, ho, hf, ht, pI, pR, hk, true_and]
  rfl
theorem Wp_putZ {X : XS} {d y pc idx o k ci j ne po : Nat} {v : Int} {ls st : List AV} {σ : SG} {Q : AV → SG → Prop} (hd : decode (mcd y) pc = .ok (.putfield idx, 3)) (ho : mow y = o) (hf : frF o idx = some (o, idx, ci, j, 0, ne, po)) (ht : (cft ci).getD j 0 = 1) (hk : shC k = ci) (hv : v = 0 ∨ v = 1) :
    Wp X d y pc ls (.inl v :: .inr (.inr (.inl k)) :: st) σ Q = Wp X d y (pc + 3) ls st (ug σ k j v) Q := by
  rw [Wp_dec hd rfl]
  simp only [wstep, ho, hf, ht, pI, pR, hk, true_and, hv]
  rfl
theorem Wp_putL {X : XS} {d y pc idx o k ci j ne po : Nat} {v : Int} {ls st : List AV} {σ : SG} {Q : AV → SG → Prop} (hd : decode (mcd y) pc = .ok (.putfield idx, 3)) (ho : mow y = o) (hf : frF o idx = some (o, idx, ci, j, 0, ne, po)) (ht : (cft ci).getD j 0 = 2) (hk : shC k = ci) :
    Wp X d y pc ls (.inr (.inl v) :: .inr (.inr (.inl k)) :: st) σ Q = Wp X d y (pc + 3) ls st (ul σ k j v) Q := by
  rw [Wp_dec hd rfl]
  simp only [wstep, ho, hf, ht, pL, pR, hk, true_and]
  rfl
theorem Wp_ldcI {X : XS} {d y pc idx o po : Nat} {v : Int} {ls st : List AV} {σ : SG} {Q : AV → SG → Prop} (hd : decode (mcd y) pc = .ok (.ldc idx, 2)) (ho : mow y = o) (hf : kiF o idx = some (o, idx, v, po)) :
    Wp X d y pc ls st σ Q = Wp X d y (pc + 2) ls (.inl v :: st) σ Q := by
  rw [Wp_dec hd rfl]
  simp only [wstep, ho, hf]
  rfl
theorem Wp_ldcW {X : XS} {d y pc idx o po : Nat} {v : Int} {ls st : List AV} {σ : SG} {Q : AV → SG → Prop} (hd : decode (mcd y) pc = .ok (.ldc_w idx, 3)) (ho : mow y = o) (hf : kiF o idx = some (o, idx, v, po)) :
    Wp X d y pc ls st σ Q = Wp X d y (pc + 3) ls (.inl v :: st) σ Q := by
  rw [Wp_dec hd rfl]
  simp only [wstep, ho, hf]
  rfl
theorem Wp_ldcS {X : XS} {d y pc idx i po : Nat} {ls st : List AV} {σ : SG} {Q : AV → SG → Prop} (hd : decode (mcd y) pc = .ok (.ldc idx, 2)) (ho : mow y = 2) (hf : kiF 2 idx = none) (hs : ksF 2 idx = some (idx, i, po)) :
    Wp X d y pc ls st σ Q = Wp X d y (pc + 2) ls (.inr (.inr (.inr (i + 2))) :: st) σ Q := by
  rw [Wp_dec hd rfl]
  simp only [wstep, ho, hf, hs]
  rfl
theorem Wp_ldcL {X : XS} {d y pc idx o po : Nat} {v : Int} {ls st : List AV} {σ : SG} {Q : AV → SG → Prop} (hd : decode (mcd y) pc = .ok (.ldc2_w idx, 3)) (ho : mow y = o) (hf : klF o idx = some (o, idx, v, po)) :
    Wp X d y pc ls st σ Q = Wp X d y (pc + 3) ls (.inr (.inl v) :: st) σ Q := by
  rw [Wp_dec hd rfl]
  simp only [wstep, ho, hf]
  rfl
theorem Wp_callS {X : XS} {d y pc idx o z na kd p1 p2 p3 p4 p5 : Nat} {ls args rest : List AV} {σ : SG} {Q : AV → SG → Prop} (hd : decode (mcd y) pc = .ok (.invokestatic idx, 3)) (ho : mow y = o) (hf : caF o idx = some (o, idx, z, kd, p1, p2, p3, p4, p5)) (hk : (decide (kd < 2) && decide (mna z = na) && decide (args.length = na) && decide (stw rest ≤ 8)) = true) :
    Wp X d y pc ls (args.reverse ++ rest) σ Q = CalK d z args σ (fun r σ' => Wp X d y (pc + 3) ls (pushR r rest) σ' Q) := by
  rw [Wp_dec hd rfl]
  simp only [Bool.and_eq_true, decide_eq_true_eq] at hk
  obtain ⟨⟨⟨h1, h2⟩, h3⟩, h4⟩ := hk
  have e1 : (args.reverse ++ rest).take na = args.reverse := by rw [List.take_append_of_le_length (by simp; omega), List.take_of_length_le (by simp; omega)]
  have e2 : (args.reverse ++ rest).drop na = rest := by rw [List.drop_append_of_le_length (by simp; omega), List.drop_of_length_le (by simp; omega), List.nil_append]
  have e3 : na ≤ (args.reverse ++ rest).length := by simp; omega
  simp only [wstep, wcall, ho, hf, h1, h2, h4, e1, e2, e3, if_true, Bool.false_eq_true, if_false, List.reverse_reverse, true_and]
  apply propext
  constructor
  · rintro ⟨m, r, σ', hc, hm⟩
    exact ⟨r, σ', hc, m, hm⟩
  · rintro ⟨r, σ', hc, m, hm⟩
    exact ⟨m, r, σ', hc, hm⟩
theorem Wp_callV {X : XS} {d y pc idx o z na kd p1 p2 p3 p4 p5 : Nat} {ls args rest : List AV} {σ : SG} {Q : AV → SG → Prop} (hd : decode (mcd y) pc = .ok (.invokevirtual idx, 3)) (ho : mow y = o) (hf : caF o idx = some (o, idx, z, kd, p1, p2, p3, p4, p5)) (hk : (decide (2 ≤ kd) && decide (mna z = na) && decide (args.length = na) && decide (stw rest ≤ 8)) = true) (hr : rcv z args[0]?) :
    Wp X d y pc ls (args.reverse ++ rest) σ Q = CalK d z args σ (fun r σ' => Wp X d y (pc + 3) ls (pushR r rest) σ' Q) := by
  rw [Wp_dec hd rfl]
  simp only [Bool.and_eq_true, decide_eq_true_eq] at hk
  obtain ⟨⟨⟨h1, h2⟩, h3⟩, h4⟩ := hk
  have e1 : (args.reverse ++ rest).take na = args.reverse := by rw [List.take_append_of_le_length (by simp; omega), List.take_of_length_le (by simp; omega)]
  have e2 : (args.reverse ++ rest).drop na = rest := by rw [List.drop_append_of_le_length (by simp; omega), List.drop_of_length_le (by simp; omega), List.nil_append]
  have e3 : na ≤ (args.reverse ++ rest).length := by simp; omega
  simp only [wstep, wcall, ho, hf, h1, h2, h4, e1, e2, e3, if_true, List.reverse_reverse, hr, and_self, true_and]
  apply propext
  constructor
  · rintro ⟨m, r, σ', hc, hm⟩
    exact ⟨r, σ', hc, m, hm⟩
  · rintro ⟨r, σ', hc, m, hm⟩
    exact ⟨m, r, σ', hc, hm⟩
theorem Wp_callR {X : XS} {d y pc idx o z na kd p1 p2 p3 p4 p5 k : Nat} {ls as rest : List AV} {σ : SG} {Q : AV → SG → Prop} (hd : decode (mcd y) pc = .ok (.invokevirtual idx, 3)) (ho : mow y = o) (hf : caF o idx = some (o, idx, z, kd, p1, p2, p3, p4, p5)) {c : Nat} (hk : (decide (2 ≤ kd) && decide (mna z = na) && decide (as.length + 1 = na) && decide (stw rest ≤ 8) && decide (mow z = c) && decide (c < 8)) = true) (hr : shC k = c) :
    Wp X d y pc ls ((.inr (.inr (.inl k)) :: as).reverse ++ rest) σ Q = CalK d z (.inr (.inr (.inl k)) :: as) σ (fun r σ' => Wp X d y (pc + 3) ls (pushR r rest) σ' Q) := by
  simp only [Bool.and_eq_true, decide_eq_true_eq] at hk
  obtain ⟨⟨⟨⟨⟨h1, h2⟩, h3⟩, h4⟩, h5⟩, h6⟩ := hk
  refine Wp_callV (na := na) hd ho hf ?_ ?_
  · simp only [Bool.and_eq_true, decide_eq_true_eq, List.length_cons]
    exact ⟨⟨⟨h1, h2⟩, h3⟩, h4⟩
  · show shC k = mow z ∧ shC k < 8
    rw [hr, h5]
    exact ⟨rfl, h6⟩
theorem Wp_iret {X : XS} {d y pc : Nat} {a : Int} {ls : List AV} {σ : SG} {Q : AV → SG → Prop} (hd : decode (mcd y) pc = .ok (.ireturn, 1)) (hr : mrt y = some .int) : Wp X d y pc ls [.inl a] σ Q = Q (.inl a) σ := by
  rw [Wp_dec hd rfl]
  simp only [wstep, pI, retI, hr, true_and, true_or]
  exact propext ⟨fun ⟨_, h⟩ => h, fun h => ⟨0, h⟩⟩
theorem Wp_zret {X : XS} {d y pc : Nat} {a : Int} {ls : List AV} {σ : SG} {Q : AV → SG → Prop} (hd : decode (mcd y) pc = .ok (.ireturn, 1)) (hr : mrt y = some .boolean) (ha : a = 0 ∨ a = 1) : Wp X d y pc ls [.inl a] σ Q = Q (.inl a) σ := by
  rw [Wp_dec hd rfl]
  have e : retI y a := Or.inr ⟨hr, ha⟩
  simp only [wstep, pI, e, true_and]
  exact propext ⟨fun ⟨_, h⟩ => h, fun h => ⟨0, h⟩⟩
theorem Wp_lret {X : XS} {d y pc : Nat} {a : Int} {ls : List AV} {σ : SG} {Q : AV → SG → Prop} (hd : decode (mcd y) pc = .ok (.lreturn, 1)) (hr : mrt y = some .long) : Wp X d y pc ls [.inr (.inl a)] σ Q = Q (.inr (.inl a)) σ := by
  rw [Wp_dec hd rfl]
  simp only [wstep, pL, hr, true_and]
  exact propext ⟨fun ⟨_, h⟩ => h, fun h => ⟨0, h⟩⟩
theorem Wp_vret {X : XS} {d y pc : Nat} {ls : List AV} {σ : SG} {Q : AV → SG → Prop} (hd : decode (mcd y) pc = .ok (.return_, 1)) (hr : mrt y = none) : Wp X d y pc ls [] σ Q = Q aU σ := by
  rw [Wp_dec hd rfl]
  simp only [wstep, hr, true_and]
  exact propext ⟨fun ⟨_, h⟩ => h, fun h => ⟨0, h⟩⟩
theorem Wp_icmp_eq {X : XS} {d y pc t : Nat} {ls st : List AV} {σ : SG} {Q : AV → SG → Prop} {off : Int} {a b : Int} (hd : decode (mcd y) pc = .ok (.if_icmp .eq off, 3)) (ht : (pc : Int) + off = (t : Int)) (ha : InR a) (hb : InR b) : Wp X d y pc ls (.inl b :: .inl a :: st) σ Q = if a = b then Wp X d y t ls st σ Q else Wp X d y (pc + 3) ls st σ Q := by rw [Wp_icmp hd ht ha hb]; simp only [cmpI, decide_eq_true_eq]
theorem Wp_ifc_eq {X : XS} {d y pc t : Nat} {ls st : List AV} {σ : SG} {Q : AV → SG → Prop} {off : Int} {a : Int} (hd : decode (mcd y) pc = .ok (.ifCond .eq off, 3)) (ht : (pc : Int) + off = (t : Int)) (ha : InR a) : Wp X d y pc ls (.inl a :: st) σ Q = if a = 0 then Wp X d y t ls st σ Q else Wp X d y (pc + 3) ls st σ Q := by rw [Wp_ifc hd ht ha]; simp only [cmpI, decide_eq_true_eq]
theorem Wp_icmp_ne {X : XS} {d y pc t : Nat} {ls st : List AV} {σ : SG} {Q : AV → SG → Prop} {off : Int} {a b : Int} (hd : decode (mcd y) pc = .ok (.if_icmp .ne off, 3)) (ht : (pc : Int) + off = (t : Int)) (ha : InR a) (hb : InR b) : Wp X d y pc ls (.inl b :: .inl a :: st) σ Q = if a = b then Wp X d y (pc + 3) ls st σ Q else Wp X d y t ls st σ Q := by rw [Wp_icmp hd ht ha hb]; simp only [cmpI, decide_eq_true_eq, ne_eq, ite_not]
theorem Wp_ifc_ne {X : XS} {d y pc t : Nat} {ls st : List AV} {σ : SG} {Q : AV → SG → Prop} {off : Int} {a : Int} (hd : decode (mcd y) pc = .ok (.ifCond .ne off, 3)) (ht : (pc : Int) + off = (t : Int)) (ha : InR a) : Wp X d y pc ls (.inl a :: st) σ Q = if a = 0 then Wp X d y (pc + 3) ls st σ Q else Wp X d y t ls st σ Q := by rw [Wp_ifc hd ht ha]; simp only [cmpI, decide_eq_true_eq, ne_eq, ite_not]
theorem Wp_icmp_lt {X : XS} {d y pc t : Nat} {ls st : List AV} {σ : SG} {Q : AV → SG → Prop} {off : Int} {a b : Int} (hd : decode (mcd y) pc = .ok (.if_icmp .lt off, 3)) (ht : (pc : Int) + off = (t : Int)) (ha : InR a) (hb : InR b) : Wp X d y pc ls (.inl b :: .inl a :: st) σ Q = if a < b then Wp X d y t ls st σ Q else Wp X d y (pc + 3) ls st σ Q := by rw [Wp_icmp hd ht ha hb]; simp only [cmpI, decide_eq_true_eq]
theorem Wp_ifc_lt {X : XS} {d y pc t : Nat} {ls st : List AV} {σ : SG} {Q : AV → SG → Prop} {off : Int} {a : Int} (hd : decode (mcd y) pc = .ok (.ifCond .lt off, 3)) (ht : (pc : Int) + off = (t : Int)) (ha : InR a) : Wp X d y pc ls (.inl a :: st) σ Q = if a < 0 then Wp X d y t ls st σ Q else Wp X d y (pc + 3) ls st σ Q := by rw [Wp_ifc hd ht ha]; simp only [cmpI, decide_eq_true_eq]
theorem Wp_icmp_ge {X : XS} {d y pc t : Nat} {ls st : List AV} {σ : SG} {Q : AV → SG → Prop} {off : Int} {a b : Int} (hd : decode (mcd y) pc = .ok (.if_icmp .ge off, 3)) (ht : (pc : Int) + off = (t : Int)) (ha : InR a) (hb : InR b) : Wp X d y pc ls (.inl b :: .inl a :: st) σ Q = if b ≤ a then Wp X d y t ls st σ Q else Wp X d y (pc + 3) ls st σ Q := by rw [Wp_icmp hd ht ha hb]; simp only [cmpI, decide_eq_true_eq]
theorem Wp_ifc_ge {X : XS} {d y pc t : Nat} {ls st : List AV} {σ : SG} {Q : AV → SG → Prop} {off : Int} {a : Int} (hd : decode (mcd y) pc = .ok (.ifCond .ge off, 3)) (ht : (pc : Int) + off = (t : Int)) (ha : InR a) : Wp X d y pc ls (.inl a :: st) σ Q = if 0 ≤ a then Wp X d y t ls st σ Q else Wp X d y (pc + 3) ls st σ Q := by rw [Wp_ifc hd ht ha]; simp only [cmpI, decide_eq_true_eq]
theorem Wp_icmp_gt {X : XS} {d y pc t : Nat} {ls st : List AV} {σ : SG} {Q : AV → SG → Prop} {off : Int} {a b : Int} (hd : decode (mcd y) pc = .ok (.if_icmp .gt off, 3)) (ht : (pc : Int) + off = (t : Int)) (ha : InR a) (hb : InR b) : Wp X d y pc ls (.inl b :: .inl a :: st) σ Q = if b < a then Wp X d y t ls st σ Q else Wp X d y (pc + 3) ls st σ Q := by rw [Wp_icmp hd ht ha hb]; simp only [cmpI, decide_eq_true_eq]
theorem Wp_ifc_gt {X : XS} {d y pc t : Nat} {ls st : List AV} {σ : SG} {Q : AV → SG → Prop} {off : Int} {a : Int} (hd : decode (mcd y) pc = .ok (.ifCond .gt off, 3)) (ht : (pc : Int) + off = (t : Int)) (ha : InR a) : Wp X d y pc ls (.inl a :: st) σ Q = if 0 < a then Wp X d y t ls st σ Q else Wp X d y (pc + 3) ls st σ Q := by rw [Wp_ifc hd ht ha]; simp only [cmpI, decide_eq_true_eq]
theorem Wp_icmp_le {X : XS} {d y pc t : Nat} {ls st : List AV} {σ : SG} {Q : AV → SG → Prop} {off : Int} {a b : Int} (hd : decode (mcd y) pc = .ok (.if_icmp .le off, 3)) (ht : (pc : Int) + off = (t : Int)) (ha : InR a) (hb : InR b) : Wp X d y pc ls (.inl b :: .inl a :: st) σ Q = if a ≤ b then Wp X d y t ls st σ Q else Wp X d y (pc + 3) ls st σ Q := by rw [Wp_icmp hd ht ha hb]; simp only [cmpI, decide_eq_true_eq]
theorem Wp_ifc_le {X : XS} {d y pc t : Nat} {ls st : List AV} {σ : SG} {Q : AV → SG → Prop} {off : Int} {a : Int} (hd : decode (mcd y) pc = .ok (.ifCond .le off, 3)) (ht : (pc : Int) + off = (t : Int)) (ha : InR a) : Wp X d y pc ls (.inl a :: st) σ Q = if a ≤ 0 then Wp X d y t ls st σ Q else Wp X d y (pc + 3) ls st σ Q := by rw [Wp_ifc hd ht ha]; simp only [cmpI, decide_eq_true_eq]
