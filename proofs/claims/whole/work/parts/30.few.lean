-- searches, without a machine: depth first and by number
/-- the first l .. at which f tells something, with what it tells -/
def firL (f : Nat → Option (List Nat)) : Nat → Nat → Option (List Nat)
  | 0, _ => none
  | m + 1, l => match f l with
    | some r => some (l :: r)
    | none => firL f m (l + 1)
def upk (kn : Nat → Int) (l : Nat) : Nat → Int := fun j => if j = l then kn1 (kn l) else kn j
/-- the first row of r sayings behind which it is hot -/
def dfsF (n : Nat) (tk : Nat → Int → Int → Int) : Nat → (Nat → Int) → Int → Option (List Nat)
  | 0, _, h => if 20 ≤ h then some [] else none
  | r + 1, kn, h => firL (fun l => dfsF n tk r (upk kn l) (heI h (tk l (kn l) h))) n 0
def finH (tk : Nat → Int → Int → Int) : List Nat → (Nat → Int) → Int → Int
  | [], _, h => h
  | l :: r, kn, h => finH tk r (upk kn l) (heI h (tk l (kn l) h))
/-- the figures of x, m of them, to the base n -/
def digs (n : Nat) : Nat → Nat → List Nat
  | 0, _ => []
  | m + 1, x => x / n ^ m % n :: digs n m x
def fndN (p : Nat → Bool) : Nat → Nat → Option Nat
  | 0, _ => none
  | k + 1, x => if p x then some x else fndN p k (x + 1)
theorem fndN_split (p : Nat → Bool) : ∀ (a b x : Nat), fndN p (a + b) x = match fndN p a x with
    | some y => some y
    | none => fndN p b (x + a) := by
  intro a
  induction a with
  | zero => intro b x; simp [fndN]
  | succ a ih =>
    intro b x
    rw [show a + 1 + b = (a + b) + 1 by omega]
    simp only [fndN]
    by_cases h : p x = true
    · simp [h]
    · simp only [h, Bool.false_eq_true, if_false]
      rw [ih b (x + 1), show x + 1 + a = x + (a + 1) by omega]
theorem fndN_shift (p q : Nat → Bool) (c : Nat) : ∀ (k x : Nat), (∀ y, x ≤ y → y < x + k → p (c + y) = q y) → fndN p k (c + x) = (fndN q k x).map (fun y => c + y) := by
  intro k
  induction k with
  | zero => intro x h; rfl
  | succ k ih =>
    intro x h
    simp only [fndN]
    rw [h x (Nat.le_refl _) (by omega)]
    by_cases hq : q x = true
    · simp [hq]
    · simp only [hq, Bool.false_eq_true, if_false]
      exact ih (x + 1) (fun y h1 h2 => h y (by omega) (by omega))
theorem digs_mod (n m x c : Nat) (hn : 0 < n) : digs n m (c * n ^ m + x) = digs n m x := by
  have key : ∀ (j e : Nat), j + 1 + e = m → (c * n ^ m + x) / n ^ j % n = x / n ^ j % n := by
    intro j e h
    have h1 : c * n ^ m = (c * n ^ e * n) * n ^ j := by
      rw [← h, Nat.pow_add, Nat.pow_add, Nat.pow_one]
      simp only [Nat.mul_assoc, Nat.mul_left_comm, Nat.mul_comm]
    rw [h1, Nat.add_comm, Nat.add_mul_div_right _ _ (Nat.pow_pos hn), Nat.add_mul_mod_self_right]
  have gen : ∀ (k : Nat), k ≤ m → digs n k (c * n ^ m + x) = digs n k x := by
    intro k
    induction k with
    | zero => intro _; rfl
    | succ k ih =>
      intro h
      simp only [digs]
      rw [key k (m - k - 1) (by omega), ih (by omega)]
  exact gen m (Nat.le_refl _)
theorem digs_top (n m x c : Nat) (hc : c < n) (hx : x < n ^ m) : digs n (m + 1) (c * n ^ m + x) = c :: digs n m x := by
  have hn : 0 < n := by omega
  simp only [digs]
  rw [digs_mod n m x c hn, Nat.add_comm, Nat.add_mul_div_right _ _ (Nat.pow_pos hn), Nat.div_eq_of_lt hx, Nat.zero_add, Nat.mod_eq_of_lt hc]
/-- depth first is by number -/
theorem dfs_num (n : Nat) (tk : Nat → Int → Int → Int) : ∀ (m : Nat) (kn : Nat → Int) (h : Int), dfsF n tk m kn h = (fndN (fun x => decide (20 ≤ finH tk (digs n m x) kn h)) (n ^ m) 0).map (digs n m) := by
  intro m
  induction m with
  | zero =>
    intro kn h
    simp only [dfsF, Nat.pow_zero, fndN, digs, finH]
    by_cases hh : 20 ≤ h
    · simp [hh, digs]
    · simp [hh]
  | succ m ih =>
    intro kn h
    simp only [dfsF]
    have key : ∀ (k l : Nat), l + k = n → firL (fun l => dfsF n tk m (upk kn l) (heI h (tk l (kn l) h))) k l = (fndN (fun x => decide (20 ≤ finH tk (digs n (m + 1) x) kn h)) (k * n ^ m) (l * n ^ m)).map (digs n (m + 1)) := by
      intro k
      induction k with
      | zero => intro l _; simp [firL, fndN]
      | succ k ihk =>
        intro l hl
        have e1 : (k + 1) * n ^ m = n ^ m + k * n ^ m := by rw [Nat.succ_mul, Nat.add_comm]
        rw [e1, fndN_split]
        have e2 := fndN_shift (fun x => decide (20 ≤ finH tk (digs n (m + 1) x) kn h)) (fun y => decide (20 ≤ finH tk (digs n m y) (upk kn l) (heI h (tk l (kn l) h)))) (l * n ^ m) (n ^ m) 0 (fun y _ hy => by
          rw [digs_top n m y l (by omega) (by omega)]; rfl)
        simp only [Nat.add_zero] at e2
        rw [e2]
        simp only [firL]
        rw [ih]
        have e3 : l * n ^ m + n ^ m = (l + 1) * n ^ m := by rw [Nat.succ_mul]
        rw [e3, ihk (l + 1) (by omega)]
        cases hf : fndN (fun y => decide (20 ≤ finH tk (digs n m y) (upk kn l) (heI h (tk l (kn l) h)))) (n ^ m) 0 with
        | none => simp
        | some y =>
          have hy : y < n ^ m := by
            have lt : ∀ (p : Nat → Bool) (k x y : Nat), fndN p k x = some y → y < x + k := by
              intro p k
              induction k with
              | zero => intro x y h; cases h
              | succ k ih2 =>
                intro x y h
                simp only [fndN] at h
                split at h
                · cases h; omega
                · have := ih2 _ _ h; omega
            have := lt _ _ _ _ hf
            omega
          simp only [Option.map_some]
          rw [digs_top n m y l (by omega) hy]
    have := key n 0 (by omega)
    rw [Nat.zero_mul, ← Nat.pow_succ'] at this
    exact this
/-- a row can't be made hot by r sayings of M at most -/
theorem dfs_prune {n : Nat} {tk : Nat → Int → Int → Int} {kn0 : Nat → Int} {h0 M : Int} (hM : ∀ l k h, l < n → kn0 l ≤ k → k ≤ 9 → h0 ≤ h → 0 ≤ tk l k h ∧ tk l k h ≤ M) :
    ∀ (r : Nat) (kn : Nat → Int) (h : Int), (∀ l, l < n → kn0 l ≤ kn l ∧ kn l ≤ 9) → h0 ≤ h → h ≤ 99 → h + r * M < 20 → dfsF n tk r kn h = none := by
  intro r
  induction r with
  | zero =>
    intro kn h _ _ _ hs
    have : ¬ 20 ≤ h := by have e : ((0 : Nat) : Int) * M = 0 := Int.zero_mul M; omega
    simp [dfsF, this]
  | succ r ih =>
    intro kn h hk hh h99 hs
    have hs' : h + M + r * M < 20 := by
      have e : ((r + 1 : Nat) : Int) * M = r * M + M := by rw [Int.natCast_succ, Int.add_mul, Int.one_mul]
      omega
    have each : ∀ l, l < n → dfsF n tk r (upk kn l) (heI h (tk l (kn l) h)) = none := by
      intro l hl
      obtain ⟨b1, b2⟩ := hM l (kn l) h hl (hk l hl).1 (hk l hl).2 hh
      have c1 : h ≤ heI h (tk l (kn l) h) ∧ heI h (tk l (kn l) h) ≤ h + M ∧ heI h (tk l (kn l) h) ≤ 99 := by unfold heI; split <;> omega
      refine ih _ _ (fun j hj => ?_) (by omega) c1.2.2 (by omega)
      unfold upk kn1
      have := hk j hj
      have := hk l hl
      split
      · subst_vars; split <;> omega
      · omega
    simp only [dfsF]
    have gen : ∀ (k l : Nat), l + k ≤ n → firL (fun l => dfsF n tk r (upk kn l) (heI h (tk l (kn l) h))) k l = none := by
      intro k
      induction k with
      | zero => intro l _; rfl
      | succ k ihk =>
        intro l hl
        simp only [firL]
        rw [each l (by omega)]
        exact ihk (l + 1) (by omega)
    exact gen n 0 (by omega)
