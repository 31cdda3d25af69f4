-- lies that come about by odds: the class
theorem b128 : ∀ m : Fin 128, ∀ L : Fin 128, (decide (m.val &&& L.val = m.val)) = allF (fun i => !(decide (m.val / 2 ^ i % 2 = 1)) || decide (L.val / 2 ^ i % 2 = 1)) 0 7 := by decide +kernel
theorem d128 : ∀ m : Fin 128, ∀ L : Fin 128, allF (fun i => decide ((L.val - (L.val &&& m.val)) / 2 ^ i % 2 = 1) == (decide (L.val / 2 ^ i % 2 = 1) && !(decide (m.val / 2 ^ i % 2 = 1)))) 0 7 = true := by decide +kernel
def chB (bm bl : Nat → Bool) (c : Int) : Nat → Nat → Int → Int
  | _, 0, a => a
  | i, n + 1, a => chB bm bl c (i + 1) n (if bl i then a * (if bm i then c else 10 - c) else a)
def fB (bl : Nat → Bool) (c : Int) (i : Nat) (b : Bool) : Int := if bl i then (if b then c else 10 - c) else (if b then 0 else 1)
def wB (bm bl : Nat → Bool) (c : Int) : Nat → Nat → Int
  | _, 0 => 1
  | i, n + 1 => fB bl c i (bm i) * wB bm bl c (i + 1) n
theorem chB_w (bm bl : Nat → Bool) (c : Int) : ∀ (n i : Nat) (a : Int), (if allF (fun i => !(bm i) || bl i) i n = true then chB bm bl c i n a else 0) = a * wB bm bl c i n := by
  intro n
  induction n with
  | zero => intro i a; simp [allF, chB, wB]
  | succ n ih =>
    intro i a
    simp only [allF, chB, wB, fB]
    have hl : bl i = true ∨ bl i = false := by cases bl i <;> simp
    have hm : bm i = true ∨ bm i = false := by cases bm i <;> simp
    rcases hl with h1 | h1
    · rcases hm with h2 | h2
      · simp only [h1, h2, Bool.not_true, Bool.false_or, Bool.true_and, if_true]
        rw [ih (i + 1) (a * c), Int.mul_assoc]
      · simp only [h1, h2, Bool.not_false, Bool.true_or, Bool.true_and, if_true, Bool.false_eq_true, if_false]
        rw [ih (i + 1) (a * (10 - c)), Int.mul_assoc]
    · rcases hm with h2 | h2
      · simp only [h1, h2, Bool.not_true, Bool.false_or, Bool.false_and, Bool.false_eq_true, if_false, if_true, Int.zero_mul, Int.mul_zero]
      · simp only [h1, h2, Bool.not_false, Bool.true_or, Bool.true_and, Bool.false_eq_true, if_false, Int.one_mul]
        rw [ih (i + 1) a]
theorem sum_pair (a : Nat → Int) (h : Nat → Int) : ∀ (n x : Nat), sumF (fun m => a (m % 2) * h (m / 2)) (2 * x) (2 * n) = (a 0 + a 1) * sumF h x n := by
  intro n
  induction n with
  | zero => intro x; simp [sumF]
  | succ n ih =>
    intro x
    rw [show 2 * (n + 1) = (2 * n + 1) + 1 by omega]
    simp only [sumF]
    have e := ih (x + 1)
    rw [show 2 * (x + 1) = 2 * x + 1 + 1 by omega] at e
    rw [e, show 2 * x % 2 = 0 by omega, show 2 * x / 2 = x by omega, show (2 * x + 1) % 2 = 1 by omega, show (2 * x + 1) / 2 = x by omega, Int.mul_add, Int.add_mul (a 0) (a 1) (h x)]
    omega
def bitB (m i : Nat) : Bool := decide (m / 2 ^ i % 2 = 1)
def wN (bl : Nat → Bool) (c : Int) : Nat → Nat → Nat → Int
  | _, 0, _ => 1
  | i, n + 1, m => fB bl c i (decide (m % 2 = 1)) * wN bl c (i + 1) n (m / 2)
def pN (bl : Nat → Bool) : Nat → Nat → Int
  | _, 0 => 1
  | i, n + 1 => (if bl i then 10 else 1) * pN bl (i + 1) n
theorem wN_sum (bl : Nat → Bool) (c : Int) : ∀ (n i : Nat), sumF (wN bl c i n) 0 (2 ^ n) = pN bl i n := by
  intro n
  induction n with
  | zero => intro i; simp [sumF, wN, pN]
  | succ n ih =>
    intro i
    have e := sum_pair (fun b => fB bl c i (decide (b = 1))) (wN bl c (i + 1) n) (2 ^ n) 0
    rw [Nat.mul_zero, ih (i + 1), ← Nat.pow_succ'] at e
    simp only [wN, pN]
    rw [e]
    congr 1
    unfold fB
    cases bl i
    · rfl
    · simp only [if_true]
      have : (decide ((0 : Nat) = 1)) = false := rfl
      rw [this]
      simp only [Bool.false_eq_true, if_false, decide_true, if_true]
      omega
theorem wB_N (bl : Nat → Bool) (c : Int) (m : Nat) : ∀ (n i x : Nat), x = m / 2 ^ i → wB (bitB m) bl c i n = wN bl c i n x := by
  intro n
  induction n with
  | zero => intro i x _; rfl
  | succ n ih =>
    intro i x hx
    simp only [wB, wN]
    rw [ih (i + 1) (x / 2) (by rw [hx, Nat.div_div_eq_div_mul, Nat.pow_succ])]
    unfold bitB
    rw [hx]
theorem hasb_nat (m i : Nat) : hasb (m : Int) i = bitB m i := by
  unfold hasb bitB
  have e : ((m : Int) / 2 ^ i % 2 = 1) = (m / 2 ^ i % 2 = 1) := by
    have : ((m : Int) / 2 ^ i % 2) = ((m / 2 ^ i % 2 : Nat) : Int) := by simp
    rw [this]
    exact propext ⟨fun h => by omega, fun h => by omega⟩
  simp only [e]
theorem chF_B (m L : Nat) (c : Int) : ∀ (n i : Nat) (a : Int), chF (m : Int) (L : Int) c i n a = chB (bitB m) (bitB L) c i n a := by
  intro n
  induction n with
  | zero => intro i a; rfl
  | succ n ih =>
    intro i a
    simp only [chF, chB, hasb_nat]
    exact ih (i + 1) _
def chT (c : Int) (L m : Nat) : Int := chF (m : Int) (L : Int) c 0 7 1
def sbT (L m : Nat) : Bool := decide (m &&& L = m)
def htT (g : Int → Int) (o : Int) (L m : Nat) : Int := hbF (g (29 + o)) (fun l => ltG g (l : Int)) ((L - (L &&& m) : Nat) : Int) 0 (g 13).toNat (g (1 + o))
def truA (c : Int) (L k : Nat) : Int := sumF (fun m => if sbT L m then chT c L m else 0) 0 k
def truH (g : Int → Int) (o c : Int) (L k : Nat) : Int := sumF (fun m => if sbT L m then (if 20 ≤ htT g o L m then chT c L m else 0) else 0) 0 k
theorem sbT_w {c : Int} {L m : Nat} (hL : L < 128) (hm : m < 128) : (if sbT L m then chT c L m else 0) = wN (bitB L) c 0 7 m := by
  have h1 := b128 ⟨m, hm⟩ ⟨L, hL⟩
  have h2 := chB_w (bitB m) (bitB L) c 7 0 1
  rw [Int.one_mul, wB_N _ _ _ _ _ m (by simp)] at h2
  rw [← h2]
  unfold sbT chT
  rw [chF_B]
  simp only at h1
  rw [h1]
  rfl
theorem sumF_zero {f : Nat → Int} : ∀ (n i : Nat), (∀ j, i ≤ j → j < i + n → f j = 0) → sumF f i n = 0 := by
  intro n
  induction n with
  | zero => intro i _; rfl
  | succ n ih =>
    intro i h
    simp only [sumF]
    rw [h i (Nat.le_refl _) (by omega), ih (i + 1) (fun j h1 h2 => h j (by omega) (by omega))]
    rfl
theorem sumF_cut {f : Nat → Int} : ∀ (n m i : Nat), sumF f i (n + m) = sumF f i n + sumF f (i + n) m := by
  intro n
  induction n with
  | zero => intro m i; simp [sumF]
  | succ n ih =>
    intro m i
    rw [show n + 1 + m = (n + m) + 1 by omega]
    simp only [sumF]
    rw [ih m (i + 1), show i + 1 + n = i + (n + 1) by omega, Int.add_assoc]
theorem sbT_hi {L m : Nat} (h : L < m) : sbT L m = false := by
  unfold sbT
  apply decide_eq_false
  intro e
  have : m &&& L ≤ L := Nat.and_le_right
  omega
theorem truA_all {c : Int} {L : Nat} (hL : L < 128) : truA c L (L + 1) = pN (bitB L) 0 7 := by
  have h1 := wN_sum (bitB L) c 7 0
  have e : (2 : Nat) ^ 7 = (L + 1) + (127 - L) := by have : (2 : Nat) ^ 7 = 128 := rfl; omega
  unfold truA
  rw [sumF_congr (g := wN (bitB L) c 0 7) (L + 1) 0 (fun j _ hj => sbT_w hL (by omega)), ← h1, e]
  have hc := sumF_cut (f := wN (bitB L) c 0 7) (L + 1) (127 - L) 0
  have z : sumF (wN (bitB L) c 0 7) (0 + (L + 1)) (127 - L) = 0 := sumF_zero _ _ (fun j h2 h3 => by
    rw [← sbT_w (c := c) hL (by omega), sbT_hi (by omega)]
    rfl)
  rw [hc, z, Int.add_zero]
theorem truH_128 {g : Int → Int} {o c : Int} {L : Nat} (hL : L < 128) : truH g o c L (L + 1) = truH g o c L 128 := by
  have e : (128 : Nat) = (L + 1) + (127 - L) := by omega
  have hc := sumF_cut (f := fun m => if sbT L m then (if 20 ≤ htT g o L m then chT c L m else 0) else 0) (L + 1) (127 - L) 0
  have z : sumF (fun m => if sbT L m then (if 20 ≤ htT g o L m then chT c L m else 0) else 0) (0 + (L + 1)) (127 - L) = 0 := sumF_zero _ _ (fun j h2 h3 => by
    show (if sbT L j = true then (if 20 ≤ htT g o L j then chT c L j else 0) else 0) = 0
    rw [sbT_hi (by omega)]
    rfl)
  rw [← e, z, Int.add_zero] at hc
  exact hc.symm
theorem pN_b (bl : Nat → Bool) : ∀ (n i : Nat), 1 ≤ pN bl i n ∧ pN bl i n ≤ 10 ^ n := by
  intro n
  induction n with
  | zero => intro i; simp [pN]
  | succ n ih =>
    intro i
    have h := ih (i + 1)
    have h2 : (10 : Int) ^ (n + 1) = 10 * 10 ^ n := by rw [Int.pow_succ, Int.mul_comm]
    simp only [pN]
    rw [h2]
    cases bl i
    · simp only [Bool.false_eq_true, if_false, Int.one_mul]; omega
    · simp only [if_true]; omega
theorem chB_b {bm bl : Nat → Bool} {c : Int} (hc : 0 ≤ c ∧ c ≤ 10) : ∀ (n i : Nat) (a : Int), 0 ≤ a → 0 ≤ chB bm bl c i n a ∧ chB bm bl c i n a ≤ 10 ^ n * a := by
  intro n
  induction n with
  | zero => intro i a h; simp [chB, h]
  | succ n ih =>
    intro i a h
    have key : 0 ≤ (if bl i then a * (if bm i then c else 10 - c) else a) ∧ (if bl i then a * (if bm i then c else 10 - c) else a) ≤ 10 * a := by
      split
      · have hf : 0 ≤ (if bm i then c else 10 - c) ∧ (if bm i then c else 10 - c) ≤ 10 := by split <;> omega
        exact ⟨Int.mul_nonneg h hf.1, by rw [Int.mul_comm 10 a]; exact Int.mul_le_mul_of_nonneg_left hf.2 h⟩
      · omega
    obtain ⟨x1, x2⟩ := ih (i + 1) _ key.1
    simp only [chB]
    refine ⟨x1, Int.le_trans x2 ?_⟩
    have h2 : (10 : Int) ^ (n + 1) * a = 10 ^ n * (10 * a) := by rw [Int.pow_succ, Int.mul_assoc]
    rw [h2]
    exact Int.mul_le_mul_of_nonneg_left key.2 (Int.pow_nonneg (by omega))
theorem chT_b {c : Int} (hc : 0 ≤ c ∧ c ≤ 10) (L m : Nat) : 0 ≤ chT c L m ∧ chT c L m ≤ 10000000 := by
  unfold chT
  rw [chF_B]
  obtain ⟨x1, x2⟩ := chB_b (bm := bitB m) (bl := bitB L) hc 7 0 1 (by omega)
  exact ⟨x1, Int.le_trans x2 (by decide)⟩
theorem sumF_b {f : Nat → Int} {B : Int} : ∀ (n i : Nat), (∀ j, 0 ≤ f j ∧ f j ≤ B) → 0 ≤ sumF f i n ∧ sumF f i n ≤ n * B := by
  intro n
  induction n with
  | zero => intro i _; simp [sumF]
  | succ n ih =>
    intro i h
    have h1 := ih (i + 1) h
    have h2 := h i
    have e : ((n + 1 : Nat) : Int) * B = n * B + B := by rw [Int.natCast_succ, Int.add_mul, Int.one_mul]
    simp only [sumF]
    rw [e]
    omega
theorem truA_b {c : Int} (hc : 0 ≤ c ∧ c ≤ 10) (L : Nat) {k : Nat} (hk : k ≤ 128) : 0 ≤ truA c L k ∧ truA c L k ≤ 1280000000 := by
  have h := sumF_b (f := fun m => if sbT L m then chT c L m else 0) (B := 10000000) k 0 (fun j => by
    have := chT_b hc L j
    show 0 ≤ (if sbT L j = true then chT c L j else 0) ∧ (if sbT L j = true then chT c L j else 0) ≤ 10000000
    split <;> omega)
  unfold truA
  omega
theorem truH_b {g : Int → Int} {o c : Int} (hc : 0 ≤ c ∧ c ≤ 10) (L : Nat) {k : Nat} (hk : k ≤ 128) : 0 ≤ truH g o c L k ∧ truH g o c L k ≤ 1280000000 := by
  have h := sumF_b (f := fun m => if sbT L m then (if 20 ≤ htT g o L m then chT c L m else 0) else 0) (B := 10000000) k 0 (fun j => by
    have := chT_b hc L j
    show 0 ≤ (if sbT L j = true then (if 20 ≤ htT g o L j then chT c L j else 0) else 0) ∧ (if sbT L j = true then (if 20 ≤ htT g o L j then chT c L j else 0) else 0) ≤ 10000000
    repeat' split
    all_goals omega)
  unfold truH
  omega
def truD (g : Int → Int) (o c : Int) (L : Nat) : Nat := Nat.gcd (truH g o c L (L + 1)).toNat (truA c L (L + 1)).toNat
def fTrues (S : Nat → Int → Int) (o lies c : Int) : AS := if hasO S o ∧ (0 ≤ lies ∧ lies ≤ 2 ^ (S 0 13).toNat - 1) ∧ 0 ≤ c ∧ c ≤ 10 then (1, set4 (set4 S 6 (truH (S 0) o c lies.toNat (lies.toNat + 1) / (truD (S 0) o c lies.toNat : Int))) 7 (truA c lies.toNat (lies.toNat + 1) / (truD (S 0) o c lies.toNat : Int))) else fBad S
