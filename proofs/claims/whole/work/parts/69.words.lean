-- words by their numbers are words by their letters
section WORDS
variable {d : Nat} {σ : SG} {b : Nat → Int} {N : Nat} {K : AV → SG → Prop} {Q : AV → SG → Prop}
theorem rn_all {t : Int → Bool} : ∀ (k p j : Nat), p ≤ j → j < rnF t b k p → t (b j) = true := by
  intro k
  induction k with
  | zero => intro p j h1 h2; simp only [rnF] at h2; omega
  | succ k ih =>
    intro p j h1 h2
    simp only [rnF] at h2
    by_cases c : t (b p) = true
    · rw [if_pos c] at h2
      by_cases e : j = p
      · subst e; exact c
      · exact ih (p + 1) j (by omega) h2
    · rw [if_neg c] at h2
      omega
theorem cd_neg {s : Nat} : ∀ (k p : Nat), s + 6 ≤ p → cdF b s k p (-1) = -1 := by
  intro k
  induction k with
  | zero => intro p _; rfl
  | succ k ih =>
    intro p hp
    simp only [cdF]
    have c : ¬ (p : Int) - (s : Int) < 6 := by omega
    rw [if_neg c]
    split
    · exact ih (p + 1) (by omega)
    · rfl
theorem vH_b {s : Nat} : ∀ n, n ≤ 6 → (∀ j, s ≤ j → j < s + n → ltr (b j) = true) → 0 ≤ vH b s n ∧ vH b s n < 32 ^ n := by
  intro n
  induction n with
  | zero => intro _ _; simp [vH]
  | succ n ih =>
    intro hn hl
    have h := ih (by omega) (fun j h1 h2 => hl j h1 (by omega))
    have h2 : 97 ≤ b (s + n) ∧ b (s + n) ≤ 122 := of_decide_eq_true (hl (s + n) (by omega) (by omega))
    have e : (32 : Int) ^ (n + 1) = 32 ^ n * 32 := Int.pow_succ _ _
    simp only [vH]
    rw [e]
    omega
theorem cd_len {s : Nat} : ∀ (k n : Nat), n ≤ 6 → (∀ j, s ≤ j → j < s + n → ltr (b j) = true) → cdF b s k (s + n) (vH b s n) = if rnF ltr b k (s + n) - s ≤ 6 then vH b s (rnF ltr b k (s + n) - s) else -1 := by
  intro k
  induction k with
  | zero =>
    intro n hn _
    have e : s + n - s = n := by omega
    have r0 : rnF ltr b 0 (s + n) = s + n := rfl
    have d0 : cdF b s 0 (s + n) (vH b s n) = vH b s n := rfl
    rw [d0, r0, if_pos (by omega), e]
  | succ k ih =>
    intro n hn hl
    by_cases c : ltr (b (s + n)) = true
    · have r1 : rnF ltr b (k + 1) (s + n) = rnF ltr b k (s + n + 1) := by simp only [rnF, c, if_true]
      have d1 : cdF b s (k + 1) (s + n) (vH b s n) = cdF b s k (s + n + 1) (if ((s + n : Nat) : Int) - (s : Int) < 6 then wr (vH b s n * 32 + b (s + n) - 96) else -1) := by simp only [cdF]; rw [if_pos c]
      rw [d1, r1]
      by_cases c6 : n < 6
      · have c6' : ((s + n : Nat) : Int) - (s : Int) < 6 := by omega
        have hl2 : ∀ j, s ≤ j → j < s + (n + 1) → ltr (b j) = true := fun j h1 h2 => by
          by_cases e : j = s + n
          · subst e; exact c
          · exact hl j h1 (by omega)
        have hb := vH_b (b := b) (s := s) (n + 1) (by omega) hl2
        have hp : (32 : Int) ^ (n + 1) ≤ 1073741824 := by
          have : n = 0 ∨ n = 1 ∨ n = 2 ∨ n = 3 ∨ n = 4 ∨ n = 5 := by omega
          rcases this with rfl | rfl | rfl | rfl | rfl | rfl <;> decide
        have e : wr (vH b s n * 32 + b (s + n) - 96) = vH b s (n + 1) := wr_id (v := vH b s (n + 1)) ⟨by omega, by omega⟩
        rw [if_pos c6', e]
        have := ih (n + 1) (by omega) hl2
        rw [show s + (n + 1) = s + n + 1 by omega] at this
        exact this
      · have e6 : n = 6 := by omega
        subst e6
        have c6' : ¬ ((s + 6 : Nat) : Int) - (s : Int) < 6 := by omega
        have hr := rnF_b (t := ltr) (b := b) k (s + 6 + 1)
        rw [if_neg c6', cd_neg _ _ (by omega), if_neg (by omega)]
    · have e : s + n - s = n := by omega
      have c' : ltr (b (s + n)) = false := Bool.eq_false_iff.mpr c
      have r1 : rnF ltr b (k + 1) (s + n) = s + n := by simp only [rnF, c', Bool.false_eq_true, if_false]
      have d1 : cdF b s (k + 1) (s + n) (vH b s n) = vH b s n := by simp only [cdF]; rw [if_neg c]
      rw [d1, r1, if_pos (by omega), e]
/-- the six words' numbers -/
def wnI (i : Nat) : Int := [671470, 12581, 514222, 19513, 217652404, 132915].getD i 0
theorem wd_vals : wdI 0 0 = 116 ∧ wdI 0 1 = 111 ∧ wdI 0 2 = 119 ∧ wdI 0 3 = 110 ∧ wdI 1 0 = 108 ∧ wdI 1 1 = 105 ∧ wdI 1 2 = 101 ∧ wdI 2 0 = 111 ∧ wdI 2 1 = 118 ∧ wdI 2 2 = 101 ∧ wdI 2 3 = 110 ∧ wdI 3 0 = 115 ∧ wdI 3 1 = 97 ∧ wdI 3 2 = 121 ∧ wdI 4 0 = 102 ∧ wdI 4 1 = 111 ∧ wdI 4 2 = 114 ∧ wdI 4 3 = 103 ∧ wdI 4 4 = 101 ∧ wdI 4 5 = 116 ∧ wdI 5 0 = 100 ∧ wdI 5 1 = 97 ∧ wdI 5 2 = 121 ∧ wdI 5 3 = 115 := by decide +kernel
theorem word_iff (hb : TXb b N) {p i : Nat} (hp : p ≤ N) (hi : i < 6) (hk : tK b N p = 1) : (tW b N p = wnI i) = (isWd b N i p = true) := by
  obtain ⟨a0, a1, a2, a3, b0, b1, b2, c0, c1, c2, c3, d0, d1, d2, e0, e1, e2, e3, e4, e5, f0, f1, f2, f3⟩ := wd_vals
  have hS : ¬ b (tS b N p) < 0 ∧ ltr (b (tS b N p)) = true := by
    unfold tK at hk
    by_cases q : b (tS b N p) < 0
    · rw [if_pos q] at hk; omega
    · rw [if_neg q] at hk
      by_cases r : ltr (b (tS b N p)) = true
      · exact ⟨q, r⟩
      · rw [if_neg r] at hk
        split at hk
        · split at hk <;> omega
        · split at hk <;> omega
  have hE : tE b N p = rnF ltr b (N - tS b N p) (tS b N p) := by unfold tE; rw [if_neg hS.1, if_pos hS.2]
  have hW : tW b N p = if tE b N p - tS b N p ≤ 6 then vH b (tS b N p) (tE b N p - tS b N p) else -1 := by
    unfold tW
    have := cd_len (b := b) (s := tS b N p) (N - tS b N p) 0 (by omega) (fun j h1 h2 => by omega)
    rw [Nat.add_zero] at this
    rw [hE]
    exact this
  have hall : ∀ j, tS b N p ≤ j → j < tE b N p → 97 ≤ b j ∧ b j ≤ 122 := fun j h1 h2 => of_decide_eq_true (rn_all (t := ltr) _ _ j h1 (by rw [← hE]; exact h2))
  have hlt : tS b N p < tE b N p := (tok_b hb hp).2.2.1 (by rw [hk]; omega) |>.2
  rw [hW]
  unfold isWd
  rw [hk]
  generalize hs : tS b N p = s at hall hlt ⊢
  generalize tE b N p = t at hall hlt ⊢
  obtain ⟨n, hn⟩ : ∃ n, t = s + n := ⟨t - s, by omega⟩
  subst hn
  have en : s + n - s = n := by omega
  rw [en]
  have hl : ∀ j, j < n → 97 ≤ b (s + j) ∧ b (s + j) ≤ 122 := fun j hj => hall (s + j) (by omega) (by omega)
  have l0 : ∀ q : Nat → Bool, ∀ k, allF q k 0 = true := fun _ _ => rfl
  have ls : ∀ (q : Nat → Bool) (k m : Nat), allF q k (m + 1) = (q k && allF q (k + 1) m) := fun _ _ _ => rfl
  have hn0 : 1 ≤ n := by omega
  have lens : lenS.getD 0 0 = 4 ∧ lenS.getD 1 0 = 3 ∧ lenS.getD 2 0 = 4 ∧ lenS.getD 3 0 = 3 ∧ lenS.getD 4 0 = 6 ∧ lenS.getD 5 0 = 4 := ⟨rfl, rfl, rfl, rfl, rfl, rfl⟩
  obtain ⟨n0, n1, n2, n3, n4, n5⟩ := lens
  have wn : wnI 0 = 671470 ∧ wnI 1 = 12581 ∧ wnI 2 = 514222 ∧ wnI 3 = 19513 ∧ wnI 4 = 217652404 ∧ wnI 5 = 132915 := ⟨rfl, rfl, rfl, rfl, rfl, rfl⟩
  obtain ⟨w0, w1, w2, w3, w4, w5⟩ := wn
  apply propext
  by_cases h6 : n ≤ 6
  · rw [if_pos h6]
    have hc : n = 1 ∨ n = 2 ∨ n = 3 ∨ n = 4 ∨ n = 5 ∨ n = 6 := by omega
    have x0 : 97 ≤ b s ∧ b s ≤ 122 := hl 0 (by omega)
    have ci : i = 0 ∨ i = 1 ∨ i = 2 ∨ i = 3 ∨ i = 4 ∨ i = 5 := by omega
    rcases hc with rfl | rfl | rfl | rfl | rfl | rfl
    · rcases ci with rfl | rfl | rfl | rfl | rfl | rfl <;> simp only [vH, n0, n1, n2, n3, n4, n5, w0, w1, w2, w3, w4, w5, decide_true, Bool.true_and, show ¬ (1 = 4) by omega, show ¬ (1 = 3) by omega, show ¬ (1 = 6) by omega, decide_false, Bool.false_and, Bool.false_eq_true, iff_false, Nat.add_zero] <;> omega
    · have x1 := hl 1 (by omega)
      rcases ci with rfl | rfl | rfl | rfl | rfl | rfl <;> simp only [vH, n0, n1, n2, n3, n4, n5, w0, w1, w2, w3, w4, w5, decide_true, Bool.true_and, show ¬ (2 = 4) by omega, show ¬ (2 = 3) by omega, show ¬ (2 = 6) by omega, decide_false, Bool.false_and, Bool.false_eq_true, iff_false, Nat.add_zero] <;> omega
    · have x1 := hl 1 (by omega)
      have x2 := hl 2 (by omega)
      rcases ci with rfl | rfl | rfl | rfl | rfl | rfl <;> simp only [vH, n0, n1, n2, n3, n4, n5, w0, w1, w2, w3, w4, w5, decide_true, Bool.true_and, show ¬ (3 = 4) by omega, show ¬ (3 = 6) by omega, decide_false, Bool.false_and, Bool.false_eq_true, iff_false, ls, l0, Bool.and_true, Bool.and_eq_true, decide_eq_true_eq, Nat.add_zero, Nat.zero_add, Nat.reduceAdd, b0, b1, b2, d0, d1, d2] <;> omega
    · have x1 := hl 1 (by omega)
      have x2 := hl 2 (by omega)
      have x3 := hl 3 (by omega)
      rcases ci with rfl | rfl | rfl | rfl | rfl | rfl <;> simp only [vH, n0, n1, n2, n3, n4, n5, w0, w1, w2, w3, w4, w5, decide_true, Bool.true_and, show ¬ (4 = 3) by omega, show ¬ (4 = 6) by omega, decide_false, Bool.false_and, Bool.false_eq_true, iff_false, ls, l0, Bool.and_true, Bool.and_eq_true, decide_eq_true_eq, Nat.add_zero, Nat.zero_add, Nat.reduceAdd, a0, a1, a2, a3, c0, c1, c2, c3, f0, f1, f2, f3] <;> omega
    · have x1 := hl 1 (by omega)
      have x2 := hl 2 (by omega)
      have x3 := hl 3 (by omega)
      have x4 := hl 4 (by omega)
      rcases ci with rfl | rfl | rfl | rfl | rfl | rfl <;> simp only [vH, n0, n1, n2, n3, n4, n5, w0, w1, w2, w3, w4, w5, decide_true, Bool.true_and, show ¬ (5 = 4) by omega, show ¬ (5 = 3) by omega, show ¬ (5 = 6) by omega, decide_false, Bool.false_and, Bool.false_eq_true, iff_false, Nat.add_zero] <;> omega
    · have x1 := hl 1 (by omega)
      have x2 := hl 2 (by omega)
      have x3 := hl 3 (by omega)
      have x4 := hl 4 (by omega)
      have x5 := hl 5 (by omega)
      rcases ci with rfl | rfl | rfl | rfl | rfl | rfl <;> simp only [vH, n0, n1, n2, n3, n4, n5, w0, w1, w2, w3, w4, w5, decide_true, Bool.true_and, show ¬ (6 = 4) by omega, show ¬ (6 = 3) by omega, decide_false, Bool.false_and, Bool.false_eq_true, iff_false, ls, l0, Bool.and_true, Bool.and_eq_true, decide_eq_true_eq, Nat.add_zero, Nat.zero_add, Nat.reduceAdd, e0, e1, e2, e3, e4, e5] <;> omega
  · rw [if_neg h6]
    have hlen : lenS.getD i 0 ≤ 6 := len_6 ⟨i, hi⟩
    have hne : ¬ n = lenS.getD i 0 := by omega
    have hw : ¬ (-1 : Int) = wnI i := by
      have ci : i = 0 ∨ i = 1 ∨ i = 2 ∨ i = 3 ∨ i = 4 ∨ i = 5 := by omega
      rcases ci with rfl | rfl | rfl | rfl | rfl | rfl <;> omega
    simp only [hw, hne, decide_false, Bool.false_and, Bool.and_false, Bool.false_eq_true]
end WORDS
