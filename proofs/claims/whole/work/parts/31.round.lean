-- the best way of a round, without a machine
def foldU {β : Type} (f : Nat → β → β) : Nat → Nat → β → β
  | 0, _, b => b
  | k + 1, x, b => foldU f k (x + 1) (f x b)
theorem foldU_split {β : Type} (f : Nat → β → β) : ∀ (a b x : Nat) (z : β), foldU f (a + b) x z = foldU f b (x + a) (foldU f a x z) := by
  intro a
  induction a with
  | zero => intro b x z; simp [foldU]
  | succ a ih =>
    intro b x z
    rw [show a + 1 + b = (a + b) + 1 by omega]
    simp only [foldU]
    rw [ih, show x + 1 + a = x + (a + 1) by omega]
theorem foldU_shift {β : Type} (f g : Nat → β → β) (c : Nat) : ∀ (k x : Nat) (z : β), (∀ y z, x ≤ y → y < x + k → f (c + y) z = g y z) → foldU f k (c + x) z = foldU g k x z := by
  intro k
  induction k with
  | zero => intro x z h; rfl
  | succ k ih =>
    intro x z h
    simp only [foldU]
    rw [h x z (Nat.le_refl _) (by omega)]
    exact ih (x + 1) _ (fun y z h1 h2 => h y z (by omega) (by omega))
theorem foldU_congr {β : Type} (f g : Nat → β → β) : ∀ (k x : Nat) (z : β), (∀ y z, x ≤ y → y < x + k → f y z = g y z) → foldU f k x z = foldU g k x z := by
  intro k
  induction k with
  | zero => intro x z h; rfl
  | succ k ih =>
    intro x z h
    simp only [foldU]
    rw [h x z (Nat.le_refl _) (by omega)]
    exact ih (x + 1) _ (fun y z h1 h2 => h y z (by omega) (by omega))
theorem foldU_same {β : Type} (f : Nat → β → β) (b : β) : ∀ (k x : Nat), (∀ y, x ≤ y → y < x + k → f y b = b) → foldU f k x b = b := by
  intro k
  induction k with
  | zero => intro x h; rfl
  | succ k ih =>
    intro x h
    simp only [foldU]
    rw [h x (Nat.le_refl _) (by omega)]
    exact ih (x + 1) (fun y h1 h2 => h y (by omega) (by omega))
def hot1 (h : Int) : Int := if 20 ≤ h then 1 else 0
/-- heat of the oven o behind the figure g, and what is known then -/
def gHe (tk2 : Nat → Nat → Int → Int → Int) (he : Nat → Int) (o g : Nat) (kn : Nat → Int) : Int := if g = 0 then he o else heI (he o) (tk2 o (g - 1) (kn (g - 1)) (he o))
def gKn (g : Nat) (kn : Nat → Int) : Nat → Int := if g = 0 then kn else upk kn (g - 1)
def scoR (tk2 : Nat → Nat → Int → Int → Int) (he : Nat → Int) : List Nat → Nat → (Nat → Int) → Int × Int
  | [], _, _ => (0, 0)
  | g :: r, o, kn => (hot1 (gHe tk2 he o g kn) + (scoR tk2 he r (o + 1) (gKn g kn)).1, gHe tk2 he o g kn + (scoR tk2 he r (o + 1) (gKn g kn)).2)
def updB (B : List Nat × Int × Int) (w : List Nat) (hot heat : Int) : List Nat × Int × Int := if B.2.1 < hot ∨ (hot = B.2.1 ∧ B.2.2 < heat) then (w, hot, heat) else B
def plcF (n : Nat) (tk2 : Nat → Nat → Int → Int → Int) (he : Nat → Int) : Nat → Nat → List Nat → (Nat → Int) → Int → Int → List Nat × Int × Int → List Nat × Int × Int
  | 0, _, pre, _, hot, heat, B => updB B pre hot heat
  | r + 1, o, pre, kn, hot, heat, B => foldU (fun g B => plcF n tk2 he r (o + 1) (pre ++ [g]) (gKn g kn) (hot + hot1 (gHe tk2 he o g kn)) (heat + gHe tk2 he o g kn) B) (n + 1) 0 B
theorem plc_num (n : Nat) (tk2 : Nat → Nat → Int → Int → Int) (he : Nat → Int) : ∀ (r o : Nat) (pre : List Nat) (kn : Nat → Int) (hot heat : Int) (B : List Nat × Int × Int),
    plcF n tk2 he r o pre kn hot heat B = foldU (fun x B => updB B (pre ++ digs (n + 1) r x) (hot + (scoR tk2 he (digs (n + 1) r x) o kn).1) (heat + (scoR tk2 he (digs (n + 1) r x) o kn).2)) ((n + 1) ^ r) 0 B := by
  intro r
  induction r with
  | zero =>
    intro o pre kn hot heat B
    simp [plcF, foldU, digs, scoR]
  | succ r ih =>
    intro o pre kn hot heat B
    simp only [plcF]
    have key : ∀ (k g : Nat) (B : List Nat × Int × Int), g + k = n + 1 → foldU (fun g B => plcF n tk2 he r (o + 1) (pre ++ [g]) (gKn g kn) (hot + hot1 (gHe tk2 he o g kn)) (heat + gHe tk2 he o g kn) B) k g B = foldU (fun x B => updB B (pre ++ digs (n + 1) (r + 1) x) (hot + (scoR tk2 he (digs (n + 1) (r + 1) x) o kn).1) (heat + (scoR tk2 he (digs (n + 1) (r + 1) x) o kn).2)) (k * (n + 1) ^ r) (g * (n + 1) ^ r) B := by
      intro k
      induction k with
      | zero => intro g B _; simp [foldU]
      | succ k ihk =>
        intro g B hg
        have e1 : (k + 1) * (n + 1) ^ r = (n + 1) ^ r + k * (n + 1) ^ r := by rw [Nat.succ_mul, Nat.add_comm]
        rw [e1, foldU_split _ ((n + 1) ^ r)]
        have e2 := foldU_shift (fun x B => updB B (pre ++ digs (n + 1) (r + 1) x) (hot + (scoR tk2 he (digs (n + 1) (r + 1) x) o kn).1) (heat + (scoR tk2 he (digs (n + 1) (r + 1) x) o kn).2))
          (fun x B => updB B ((pre ++ [g]) ++ digs (n + 1) r x) (hot + hot1 (gHe tk2 he o g kn) + (scoR tk2 he (digs (n + 1) r x) (o + 1) (gKn g kn)).1) (heat + gHe tk2 he o g kn + (scoR tk2 he (digs (n + 1) r x) (o + 1) (gKn g kn)).2)) (g * (n + 1) ^ r) ((n + 1) ^ r) 0 B (fun y z _ hy => by
            rw [digs_top (n + 1) r y g (by omega) (by omega)]
            simp only [scoR, List.append_assoc, List.singleton_append, Int.add_assoc])
        simp only [Nat.add_zero] at e2
        have e3 : g * (n + 1) ^ r + (n + 1) ^ r = (g + 1) * (n + 1) ^ r := by rw [Nat.succ_mul]
        rw [e2, e3, ← ihk (g + 1) _ (by omega)]
        simp only [foldU]
        rw [ih]
    have := key (n + 1) 0 B (by omega)
    rw [Nat.zero_mul, ← Nat.pow_succ'] at this
    exact this
/-- with what is hopeless left out: the same -/
def plcP (n : Nat) (tk2 : Nat → Nat → Int → Int → Int) (he HA EA : Nat → Int) : Nat → Nat → List Nat → (Nat → Int) → Int → Int → List Nat × Int × Int → List Nat × Int × Int
  | 0, o, pre, _, hot, heat, B => if hot + HA o < B.2.1 ∨ (hot + HA o = B.2.1 ∧ heat + EA o ≤ B.2.2) then B else (pre, hot, heat)
  | r + 1, o, pre, kn, hot, heat, B => if hot + HA o < B.2.1 ∨ (hot + HA o = B.2.1 ∧ heat + EA o ≤ B.2.2) then B else foldU (fun g B => plcP n tk2 he HA EA r (o + 1) (pre ++ [g]) (gKn g kn) (hot + hot1 (gHe tk2 he o g kn)) (heat + gHe tk2 he o g kn) B) (n + 1) 0 B
def knLe (n : Nat) (kn0 kn : Nat → Int) : Prop := ∀ l, l < n → kn0 l ≤ kn l ∧ kn l ≤ 9
theorem knLe_up {n : Nat} {kn0 kn : Nat → Int} (h : knLe n kn0 kn) (l : Nat) (hl : l < n) : knLe n kn0 (upk kn l) := by
  intro j hj
  have h1 := h j hj
  have h2 := h l hl
  unfold upk kn1
  split
  · subst_vars; split <;> omega
  · omega
theorem knLe_g {n : Nat} {kn0 kn : Nat → Int} (h : knLe n kn0 kn) (g : Nat) (hg : g < n + 1) : knLe n kn0 (gKn g kn) := by
  unfold gKn
  split
  · exact h
  · exact knLe_up h (g - 1) (by omega)
/-- HA, EA bound what the ovens from o on can bring -/
theorem scoR_le {n O : Nat} {tk2 : Nat → Nat → Int → Int → Int} {he HA EA kn0 : Nat → Int}
    (hb : ∀ o g kn, o < O → g < n + 1 → knLe n kn0 kn → hot1 (gHe tk2 he o g kn) + HA (o + 1) ≤ HA o ∧ gHe tk2 he o g kn + EA (o + 1) ≤ EA o) (h0 : HA O = 0 ∧ EA O = 0) :
    ∀ (r o : Nat) (x : Nat) (kn : Nat → Int), o + r = O → knLe n kn0 kn → (scoR tk2 he (digs (n + 1) r x) o kn).1 ≤ HA o ∧ (scoR tk2 he (digs (n + 1) r x) o kn).2 ≤ EA o := by
  intro r
  induction r with
  | zero =>
    intro o x kn ho _
    have : o = O := by omega
    subst this
    simp only [digs, scoR]
    omega
  | succ r ih =>
    intro o x kn ho hk
    have hg : x / (n + 1) ^ r % (n + 1) < n + 1 := Nat.mod_lt _ (by omega)
    obtain ⟨a1, a2⟩ := hb o _ kn (by omega) hg hk
    obtain ⟨b1, b2⟩ := ih (o + 1) x _ (by omega) (knLe_g hk _ hg)
    simp only [digs, scoR]
    omega
theorem plc_hopeless {n O : Nat} {tk2 : Nat → Nat → Int → Int → Int} {he HA EA kn0 : Nat → Int}
    (hb : ∀ o g kn, o < O → g < n + 1 → knLe n kn0 kn → hot1 (gHe tk2 he o g kn) + HA (o + 1) ≤ HA o ∧ gHe tk2 he o g kn + EA (o + 1) ≤ EA o) (h0 : HA O = 0 ∧ EA O = 0)
    (r o : Nat) (pre : List Nat) (kn : Nat → Int) (hot heat : Int) (B : List Nat × Int × Int) (ho : o + r = O) (hk : knLe n kn0 kn) (hh : hot + HA o < B.2.1 ∨ (hot + HA o = B.2.1 ∧ heat + EA o ≤ B.2.2)) : plcF n tk2 he r o pre kn hot heat B = B := by
  rw [plc_num]
  refine foldU_same _ _ _ _ (fun y _ _ => ?_)
  obtain ⟨a1, a2⟩ := scoR_le hb h0 r o y kn ho hk
  unfold updB
  rw [if_neg]
  omega
theorem plcP_eq {n O : Nat} {tk2 : Nat → Nat → Int → Int → Int} {he HA EA kn0 : Nat → Int}
    (hb : ∀ o g kn, o < O → g < n + 1 → knLe n kn0 kn → hot1 (gHe tk2 he o g kn) + HA (o + 1) ≤ HA o ∧ gHe tk2 he o g kn + EA (o + 1) ≤ EA o) (h0 : HA O = 0 ∧ EA O = 0) :
    ∀ (r o : Nat) (pre : List Nat) (kn : Nat → Int) (hot heat : Int) (B : List Nat × Int × Int), o + r = O → knLe n kn0 kn → plcP n tk2 he HA EA r o pre kn hot heat B = plcF n tk2 he r o pre kn hot heat B := by
  intro r
  induction r with
  | zero =>
    intro o pre kn hot heat B ho hk
    have : o = O := by omega
    subst this
    simp only [plcP, plcF, updB]
    by_cases hh : hot + HA o < B.2.1 ∨ (hot + HA o = B.2.1 ∧ heat + EA o ≤ B.2.2)
    · rw [if_pos hh, if_neg (by omega)]
    · rw [if_neg hh, if_pos (by omega)]
  | succ r ih =>
    intro o pre kn hot heat B ho hk
    by_cases hh : hot + HA o < B.2.1 ∨ (hot + HA o = B.2.1 ∧ heat + EA o ≤ B.2.2)
    · rw [plc_hopeless hb h0 (r + 1) o pre kn hot heat B ho hk hh]
      simp only [plcP, if_pos hh]
    · simp only [plcP, if_neg hh, plcF]
      exact foldU_congr _ _ _ _ _ (fun g B _ hg => ih (o + 1) _ _ _ _ B (by omega) (knLe_g hk g (by omega)))
