-- what the text tells, without a machine
def numOK (b : Nat → Int) (N p : Nat) (lo hi : Int) : Prop := tK b N p = 2 ∧ lo ≤ tV b N p ∧ tV b N p ≤ hi
abbrev IT := Bool × Nat × (Int → Int)
def itLie (b : Nat → Int) (N p : Nat) (g : Int → Int) : IT := if 7 ≤ g 13 then (false, p, g) else if tK b N (tE b N p) = 2 ∧ 0 ≤ tV b N (tE b N p) ∧ tV b N (tE b N p) ≤ 5 then (if tK b N (tE b N (tE b N p)) = 2 ∧ 1 ≤ tV b N (tE b N (tE b N p)) ∧ tV b N (tE b N (tE b N p)) ≤ 9 then (true, tE b N (tE b N p), rLie g (tV b N (tE b N p)) (tV b N (tE b N (tE b N p)))) else (false, tE b N (tE b N p), g)) else (false, tE b N p, g)
def itOven (b : Nat → Int) (N p : Nat) (g : Int → Int) : IT := if 5 ≤ g 28 then (false, p, g) else if tK b N (tE b N p) = 2 ∧ 0 ≤ tV b N (tE b N p) ∧ tV b N (tE b N p) ≤ 5 then (true, tE b N p, rOven g (tV b N (tE b N p))) else (false, tE b N p, g)
def itSay (b : Nat → Int) (N p : Nat) (g : Int → Int) : IT := if tK b N (tE b N p) = 2 ∧ 0 ≤ tV b N (tE b N p) ∧ tV b N (tE b N p) ≤ g 13 - 1 then (if tK b N (tE b N (tE b N p)) = 2 ∧ 0 ≤ tV b N (tE b N (tE b N p)) ∧ tV b N (tE b N (tE b N p)) ≤ g 28 - 1 then (true, tE b N (tE b N p), rSay g (tV b N (tE b N p)) (tV b N (tE b N (tE b N p)))) else (false, tE b N (tE b N p), g)) else (false, tE b N p, g)
def itForget (b : Nat → Int) (N p : Nat) (g : Int → Int) : IT := if tK b N (tE b N p) = 2 ∧ 0 ≤ tV b N (tE b N p) ∧ tV b N (tE b N p) ≤ g 13 - 1 then (true, tE b N p, r0 g (6 + tV b N (tE b N p))) else (false, tE b N p, g)
def itDays (b : Nat → Int) (N p : Nat) (g : Int → Int) : IT := if tK b N (tE b N p) = 2 ∧ 1 ≤ tV b N (tE b N p) ∧ tV b N (tE b N p) ≤ 99 then (true, tE b N p, rDays (tV b N (tE b N p)).toNat g) else (false, tE b N p, g)
def itF (b : Nat → Int) (N p : Nat) (g : Int → Int) : IT := if isWd b N 1 p then itLie b N p g else if isWd b N 2 p then itOven b N p g else if isWd b N 3 p then itSay b N p g else if isWd b N 4 p then itForget b N p g else if isWd b N 5 p then itDays b N p g else (false, p, g)
def parL (b : Nat → Int) (N : Nat) : Nat → Int → Nat → (Int → Int) → Int × (Int → Int)
  | 0, items, _, g => (items, g)
  | k + 1, items, p, g => if tK b N p = 0 then (items, g) else
    (if (itF b N p g).1 then (if tK b N (tE b N (itF b N p g).2.1) = 3 then parL b N k (items + 1) (tE b N (tE b N (itF b N p g).2.1)) (itF b N p g).2.2 else (-10 - (tS b N (tE b N (itF b N p g).2.1) : Int), (itF b N p g).2.2))
    else (-10 - (tS b N (itF b N p g).2.1 : Int), (itF b N p g).2.2))
def parF (b : Nat → Int) (N : Nat) : Int × (Int → Int) := if isWd b N 0 0 then (if tK b N (tE b N 0) = 3 then parL b N (N + 1) 1 (tE b N (tE b N 0)) (fun _ => 0) else (-10 - (tS b N (tE b N 0) : Int), fun _ => 0)) else (-10 - (tS b N 0 : Int), fun _ => 0)
/-- what a row is while it is read -/
def ROK (g : Int → Int) : Prop := GOK g ∧ g 0 ≤ 9999 ∧ g 116 = 0
section PARP
variable {b : Nat → Int} {N : Nat}
theorem ROK_zero : ROK (fun _ => 0) := ⟨GOK_zero (fun _ _ _ => rfl), by show (0 : Int) ≤ 9999; omega, rfl⟩
theorem ROK_lie {g : Int → Int} (h : ROK g) {kd u : Int} (h7 : ¬ 7 ≤ g 13) (hk : 0 ≤ kd ∧ kd ≤ 5) (hu : 1 ≤ u ∧ u ≤ 9) : ROK (rLie g kd u) := by
  obtain ⟨h1, h2, h3⟩ := h
  have g13 := h1.1
  refine ⟨GOK_lie h1 (by omega) h3 hk hu, ?_, ?_⟩
  · unfold rLie; repeat rw [if_neg (by omega)]
    exact h2
  · unfold rLie; repeat rw [if_neg (by omega)]
    exact h3
theorem ROK_oven {g : Int → Int} (h : ROK g) {kd : Int} (h7 : ¬ 5 ≤ g 28) (hk : 0 ≤ kd ∧ kd ≤ 5) : ROK (rOven g kd) := by
  obtain ⟨h1, h2, h3⟩ := h
  have g28 := h1.2.1
  refine ⟨GOK_oven h1 (by omega) h3 hk, ?_, ?_⟩
  · unfold rOven; repeat rw [if_neg (by omega)]
    exact h2
  · unfold rOven; repeat rw [if_neg (by omega)]
    exact h3
theorem ROK_say {g : Int → Int} (h : ROK g) {l o : Int} (hl : 0 ≤ l ∧ l < g 13) (ho : 0 ≤ o ∧ o < g 28) : ROK (rSay g l o) := by
  obtain ⟨h1, h2, h3⟩ := h
  have g13 := h1.1
  have g28 := h1.2.1
  refine ⟨GOK_say h1 hl ho, ?_, ?_⟩
  · unfold rSay; repeat rw [if_neg (by omega)]
    exact h2
  · unfold rSay; repeat rw [if_neg (by omega)]
    exact h3
theorem ROK_forget {g : Int → Int} (h : ROK g) {l : Int} (hl : 0 ≤ l ∧ l < g 13) : ROK (r0 g (6 + l)) := by
  obtain ⟨h1, h2, h3⟩ := h
  have g13 := h1.1
  refine ⟨GOK_forget h1 hl, ?_, ?_⟩
  · unfold r0; rw [if_neg (by omega)]; exact h2
  · unfold r0; rw [if_neg (by omega)]; exact h3
theorem ROK_days {g : Int → Int} (h : ROK g) (n : Nat) : ROK (rDays n g) := by
  obtain ⟨h1, h2, h3⟩ := h
  obtain ⟨x1, x2⟩ := GOK_days n g h1 h2
  exact ⟨x1, x2, by rw [rDays_hi _ _ (by omega), h3]⟩
theorem tE_le {hb : TXb b N} {p : Nat} (hp : p ≤ N) : tE b N p ≤ N := (tok_b hb hp).2.1
/-- what an item leaves -/
theorem itF_ok (hb : TXb b N) {p : Nat} (hp : p ≤ N) (hz : ¬ tK b N p = 0) {g : Int → Int} (hg : ROK g) : ROK (itF b N p g).2.2 ∧ (itF b N p g).2.1 ≤ N ∧ ((itF b N p g).1 = true → p + 1 ≤ (itF b N p g).2.1) := by
  have hpe := tok_b hb hp
  have hps := tS_b (b := b) hp
  have h1 : p + 1 ≤ tE b N p := by have := hpe.2.2.1 hz; omega
  have h2 := tok_b hb hpe.2.1
  have h2s := tS_b (b := b) hpe.2.1
  unfold itF
  split
  · unfold itLie
    split
    · exact ⟨hg, hp, fun q => absurd q (by simp)⟩
    · rename_i c7
      split
      · rename_i c1
        split
        · rename_i c2
          exact ⟨ROK_lie hg c7 c1.2 c2.2, h2.2.1, fun _ => by show p + 1 ≤ tE b N (tE b N p); omega⟩
        · exact ⟨hg, h2.2.1, fun q => absurd q (by simp)⟩
      · exact ⟨hg, hpe.2.1, fun q => absurd q (by simp)⟩
  · split
    · unfold itOven
      split
      · exact ⟨hg, hp, fun q => absurd q (by simp)⟩
      · rename_i c7
        split
        · rename_i c1
          exact ⟨ROK_oven hg c7 c1.2, hpe.2.1, fun _ => h1⟩
        · exact ⟨hg, hpe.2.1, fun q => absurd q (by simp)⟩
    · split
      · unfold itSay
        split
        · rename_i c1
          split
          · rename_i c2
            exact ⟨ROK_say hg (by omega) (by omega), h2.2.1, fun _ => by show p + 1 ≤ tE b N (tE b N p); omega⟩
          · exact ⟨hg, h2.2.1, fun q => absurd q (by simp)⟩
        · exact ⟨hg, hpe.2.1, fun q => absurd q (by simp)⟩
      · split
        · unfold itForget
          split
          · rename_i c1
            exact ⟨ROK_forget hg (by omega), hpe.2.1, fun _ => h1⟩
          · exact ⟨hg, hpe.2.1, fun q => absurd q (by simp)⟩
        · split
          · unfold itDays
            split
            · exact ⟨ROK_days hg _, hpe.2.1, fun _ => h1⟩
            · exact ⟨hg, hpe.2.1, fun q => absurd q (by simp)⟩
          · exact ⟨hg, hp, fun q => absurd q (by simp)⟩
end PARP
