-- what is alike, without a machine: lists of what the ones of p answer
def hasb (x : Int) (i : Nat) : Bool := decide (x / 2 ^ i % 2 = 1)
def cmpF (p : Nat → Bool) (f : Nat → Int) : Nat → Nat → List Int
  | _, 0 => []
  | i, n + 1 => if p i then f i :: cmpF p f (i + 1) n else cmpF p f (i + 1) n
def mxL (g : Int → Int) : List Int → Int → Int
  | [], a => a
  | x :: t, a => mxL g t (if a < g x then g x else a)
def cntL (v : Int) : List Int → Int
  | [] => 0
  | x :: t => (if v = x then 1 else 0) + cntL v t
def mostL (L : List Int) : Int := mxL (fun v => cntL v L) L 0
theorem cntL_nn (v : Int) : ∀ (L : List Int), 0 ≤ cntL v L := by
  intro L
  induction L with
  | nil => exact Int.le_refl 0
  | cons x t ih => simp only [cntL]; split <;> omega
theorem mxL_congr {g h : Int → Int} : ∀ (L : List Int) (a : Int), (∀ x, g x = h x) → mxL g L a = mxL h L a := by
  intro L
  induction L with
  | nil => intro a _; rfl
  | cons x t ih => intro a e; simp only [mxL]; rw [e x, ih _ e]
theorem mxF_cmp {p : Nat → Bool} {f : Nat → Int} {g : Int → Int} (hg : ∀ v, 0 ≤ g v) : ∀ (n i : Nat) (a : Int), 0 ≤ a → mxF (fun i => if p i then g (f i) else 0) i n a = mxL g (cmpF p f i n) a := by
  intro n
  induction n with
  | zero => intro i a _; rfl
  | succ n ih =>
    intro i a ha
    simp only [mxF, cmpF]
    cases hp : p i with
    | true =>
      simp only [if_true, mxL]
      refine ih (i + 1) _ ?_
      have := hg (f i)
      split <;> omega
    | false =>
      simp only [Bool.false_eq_true, if_false]
      rw [if_neg (by omega)]
      exact ih (i + 1) a ha
theorem sumF_cmp {p : Nat → Bool} {f : Nat → Int} {v : Int} : ∀ (n i : Nat), sumF (fun j => if p j = true ∧ v = f j then 1 else 0) i n = cntL v (cmpF p f i n) := by
  intro n
  induction n with
  | zero => intro i; rfl
  | succ n ih =>
    intro i
    simp only [sumF, cmpF]
    rw [ih]
    cases hp : p i with
    | true => simp only [true_and, if_true, cntL]
    | false => simp only [Bool.false_eq_true, false_and, if_false, Int.zero_add]
theorem mxF_shift (f : Nat → Int) (c : Nat) : ∀ (n i : Nat) (a : Int), mxF f (c + i) n a = mxF (fun j => f (c + j)) i n a := by
  intro n
  induction n with
  | zero => intro i a; rfl
  | succ n ih => intro i a; simp only [mxF]; rw [← ih (i + 1), Nat.add_assoc]
theorem sumF_shift (f : Nat → Int) (c : Nat) : ∀ (n i : Nat), sumF f (c + i) n = sumF (fun j => f (c + j)) i n := by
  intro n
  induction n with
  | zero => intro i; rfl
  | succ n ih => intro i; simp only [sumF]; rw [← ih (i + 1), Nat.add_assoc]
theorem mxF_get {g : Int → Int} : ∀ (L : List Int) (a : Int), mxF (fun i => g (L.getD i 0)) 0 L.length a = mxL g L a := by
  intro L
  induction L with
  | nil => intro a; rfl
  | cons x t ih =>
    intro a
    simp only [List.length_cons, mxF, mxL]
    have e := mxF_shift (fun i => g ((x :: t).getD i 0)) 1 t.length 0 (if a < g ((x :: t).getD 0 0) then g ((x :: t).getD 0 0) else a)
    rw [Nat.add_zero] at e
    rw [Nat.zero_add, e]
    have e2 : (fun j => g ((x :: t).getD (1 + j) 0)) = fun j => g (t.getD j 0) := funext fun j => by rw [Nat.add_comm 1 j, List.getD_cons_succ]
    rw [e2]
    exact ih _
theorem sumF_get {v : Int} : ∀ (L : List Int), sumF (fun j => if v = L.getD j 0 then 1 else 0) 0 L.length = cntL v L := by
  intro L
  induction L with
  | nil => rfl
  | cons x t ih =>
    simp only [List.length_cons, sumF, cntL]
    have e := sumF_shift (fun j => if v = (x :: t).getD j 0 then (1 : Int) else 0) 1 t.length 0
    rw [Nat.add_zero] at e
    rw [Nat.zero_add, e]
    have e2 : (fun j => if v = (x :: t).getD (1 + j) 0 then (1 : Int) else 0) = fun j => if v = t.getD j 0 then (1 : Int) else 0 := funext fun j => by rw [Nat.add_comm 1 j, List.getD_cons_succ]
    rw [e2, ih]
    rfl
theorem mostF_get (L : List Int) : mostF (fun j => L.getD j 0) L.length = mostL L := by
  unfold mostF mostL likeF
  rw [← mxF_get (g := fun v => cntL v L)]
  have e : (fun i => sumF (fun j => if L.getD i 0 = L.getD j 0 then (1 : Int) else 0) 0 L.length) = fun i => cntL (L.getD i 0) L := funext fun i => sumF_get L
  rw [e]
theorem mxF_congr {f g : Nat → Int} : ∀ (n i : Nat) (a : Int), (∀ j, i ≤ j → j < i + n → f j = g j) → mxF f i n a = mxF g i n a := by
  intro n
  induction n with
  | zero => intro i a _; rfl
  | succ n ih => intro i a h; simp only [mxF]; rw [h i (by omega) (by omega), ih (i + 1) _ (fun j h1 h2 => h j (by omega) (by omega))]
theorem mostF_congr {f g : Nat → Int} {n : Nat} (h : ∀ j, j < n → f j = g j) : mostF f n = mostF g n := by
  unfold mostF likeF
  refine mxF_congr n 0 0 (fun i _ hi => ?_)
  rw [h i (by omega)]
  exact sumF_congr n 0 (fun j _ hj => by rw [h j (by omega)])
/-- as the reference counts them -/
theorem most_ref {p : Nat → Bool} {f : Nat → Int} (n : Nat) : mxF (fun i => sumF (fun j => if (p i = true ∧ p j = true) ∧ f i = f j then 1 else 0) 0 n) 0 n 0 = mostL (cmpF p f 0 n) := by
  unfold mostL
  rw [← mxF_cmp (g := fun v => cntL v (cmpF p f 0 n)) (fun v => cntL_nn v _) n 0 0 (Int.le_refl 0)]
  refine mxF_congr n 0 0 (fun i _ _ => ?_)
  cases hp : p i with
  | true => simp only [true_and, if_true]; exact sumF_cmp n 0
  | false =>
    simp only [Bool.false_eq_true, false_and, if_false]
    have z : ∀ (n i : Nat), sumF (fun _ => (0 : Int)) i n = 0 := by
      intro n
      induction n with
      | zero => intro i; rfl
      | succ n ih => intro i; simp only [sumF]; rw [ih]; rfl
    exact z n 0
theorem cmpF_congr {p q : Nat → Bool} {f g : Nat → Int} : ∀ (n i : Nat), (∀ j, i ≤ j → j < i + n → p j = q j) → (∀ j, i ≤ j → j < i + n → p j = true → f j = g j) → cmpF p f i n = cmpF q g i n := by
  intro n
  induction n with
  | zero => intro i _ _; rfl
  | succ n ih =>
    intro i h k
    simp only [cmpF]
    rw [← h i (by omega) (by omega), ih (i + 1) (fun j h1 h2 => h j (by omega) (by omega)) (fun j h1 h2 => k j (by omega) (by omega))]
    split
    · rename_i hp
      rw [k i (by omega) (by omega) hp]
    · rfl
theorem cmpF_len {p : Nat → Bool} {f : Nat → Int} : ∀ (n i : Nat), (cmpF p f i n).length ≤ n := by
  intro n
  induction n with
  | zero => intro i; exact Nat.le_refl 0
  | succ n ih =>
    intro i
    simp only [cmpF]
    split
    · simp only [List.length_cons]; exact Nat.succ_le_succ (ih (i + 1))
    · exact Nat.le_succ_of_le (ih (i + 1))
/-- more ones at the end that p leaves out -/
theorem cmpF_more {p : Nat → Bool} {f : Nat → Int} {m : Nat} : ∀ (n i : Nat), (∀ j, i + n ≤ j → j < i + n + m → p j = false) → cmpF p f i (n + m) = cmpF p f i n := by
  intro n
  induction n with
  | zero =>
    have z : ∀ (m i : Nat), (∀ j, i ≤ j → j < i + m → p j = false) → cmpF p f i m = [] := by
      intro m
      induction m with
      | zero => intro i _; rfl
      | succ m ih =>
        intro i h
        simp only [cmpF]
        rw [h i (by omega) (by omega)]
        simp only [Bool.false_eq_true, if_false]
        exact ih (i + 1) (fun j h1 h2 => h j (by omega) (by omega))
    intro i h
    rw [Nat.zero_add, z m i (fun j h1 h2 => h j (by omega) (by omega))]
    rfl
  | succ n ih =>
    intro i h
    rw [show n + 1 + m = (n + m) + 1 by omega]
    simp only [cmpF]
    rw [ih (i + 1) (fun j h1 h2 => h j (by omega) (by omega))]
/-- the same but in the cells of which S holds -/
def SAM (S : Nat → Nat → Prop) (σ τ : SG) : Prop := (∀ a b, ¬ S a b → gg τ a b = gg σ a b) ∧ ∀ a b, gl τ a b = gl σ a b
theorem SAM_refl (S : Nat → Nat → Prop) (σ : SG) : SAM S σ σ := ⟨fun _ _ _ => rfl, fun _ _ => rfl⟩
theorem SAM_trans {S : Nat → Nat → Prop} {σ τ υ : SG} (h1 : SAM S σ τ) (h2 : SAM S τ υ) : SAM S σ υ := ⟨fun a b h => (h2.1 a b h).trans (h1.1 a b h), fun a b => (h2.2 a b).trans (h1.2 a b)⟩
theorem SAM_ua {S : Nat → Nat → Prop} {σ τ : SG} {k : Nat} {i v : Int} (h : SAM S σ τ) (hs : S k i.toNat) : SAM S σ (ua τ k i v) := by
  refine ⟨fun a b hn => ?_, fun a b => h.2 a b⟩
  rw [gg_ua]
  split
  · rename_i e
    subst e
    split
    · rename_i e2; subst e2; exact absurd hs hn
    · exact h.1 _ _ hn
  · exact h.1 _ _ hn
theorem SAM_ug {S : Nat → Nat → Prop} {σ τ : SG} {k j : Nat} {v : Int} (h : SAM S σ τ) (hs : S k j) : SAM S σ (ug τ k j v) := by
  refine ⟨fun a b hn => ?_, fun a b => h.2 a b⟩
  rw [gg_ug]
  split
  · rename_i e
    subst e
    split
    · rename_i e2; subst e2; exact absurd hs hn
    · exact h.1 _ _ hn
  · exact h.1 _ _ hn
theorem SAM_mR {S : Nat → Nat → Prop} {σ τ : SG} {c b n : Nat} {g : Nat → Int} (h : SAM S σ τ) (hs : ∀ x, b ≤ x → x < b + n → S c x) : SAM S σ (mR τ c b n g) := by
  refine ⟨fun a x hn => ?_, fun a x => h.2 a x⟩
  rw [gg_mR]
  split
  · rename_i e
    subst e
    split
    · rename_i e2; exact absurd (hs x e2.1 e2.2) hn
    · exact h.1 _ _ hn
  · exact h.1 _ _ hn
theorem SAM_ga {S : Nat → Nat → Prop} {σ τ : SG} (h : SAM S σ τ) (a : Nat) (x : Int) (hn : ¬ S a x.toNat) : ga τ a x = ga σ a x := h.1 _ _ hn
def S70 (a _b : Nat) : Prop := a = 70
