-- what an operation does to the state that both hold; frames
def setR (S : Nat → Int → Int) (g : Int → Int) : Nat → Int → Int := fun a => if a = 0 then g else S a
def bmp (S : Nat → Int → Int) (k : Int) : Nat → Int → Int := fun a x => if a = 4 ∧ x = k then wr (S 4 k + 1) else S a x
def set4 (S : Nat → Int → Int) (k v : Int) : Nat → Int → Int := fun a x => if a = 4 ∧ x = k then v else S a x
abbrev AS := Int × (Nat → Int → Int)
def fBad (S : Nat → Int → Int) : AS := (-2, bmp S 3)
def fBadT (S : Nat → Int → Int) : AS := (-10, bmp S 3)
def fNo (S : Nat → Int → Int) : AS := (-3, bmp S 4)
def fFull (S : Nat → Int → Int) : AS := (-4, bmp S 5)
abbrev hasL (S : Nat → Int → Int) (l : Int) : Prop := 0 ≤ l ∧ l < S 0 13
abbrev hasO (S : Nat → Int → Int) (o : Int) : Prop := 0 ≤ o ∧ o < S 0 28
def CRk (a b : Nat) : Prop := a ≤ 14 ∨ (30 ≤ a ∧ a ≤ 58) ∨ a = 60 ∨ (a = 59 ∧ b = 1) ∨ ((a = 21 ∨ a = 23 ∨ a = 25) ∧ b ≤ 1)
def CLO (σ τ : SG) : Prop := (∀ a b, 71 ≤ a → gg τ a b = gg σ a b) ∧ ∀ a b, 71 ≤ a → gl τ a b = gl σ a b
def MLO (σ τ : SG) : Prop := (∀ a b, a ≤ 70 → gg τ a b = gg σ a b) ∧ ∀ a b, a ≤ 70 → gl τ a b = gl σ a b
def OPC (σ : SG) (F : AS) (r : AV) (τ : SG) : Prop := r = .inl F.1 ∧ CR τ F.2 ∧ CLO σ τ
def OPM (σ : SG) (F : AS) (r : AV) (τ : SG) : Prop := r = .inl F.1 ∧ MR τ F.2 ∧ MLO σ τ
def OPCL (σ : SG) (F : AS) (r : AV) (τ : SG) : Prop := (∃ v : Int, r = .inr (.inl v) ∧ wrL v = F.1) ∧ CR τ F.2 ∧ CLO σ τ
def OPML (σ : SG) (F : AS) (r : AV) (τ : SG) : Prop := (∃ v : Int, r = .inr (.inl v) ∧ wrL v = F.1) ∧ MR τ F.2 ∧ MLO σ τ
def OUT (t : Nat) (σ τ : SG) : Prop := (∀ a b, ¬ (t ≤ a ∧ a ≤ t + 13) → gg τ a b = gg σ a b) ∧ (∀ a b, (a = t + 6 ∨ a = t + 8 ∨ a = t + 10) → b ≤ 1 → gg τ a b = gg σ a b) ∧ ∀ a b, gl τ a b = gl σ a b
section FRAMES
variable {σ τ υ : SG} {S : Nat → Int → Int} {g : Int → Int} {t : Nat}
theorem CLO_refl (σ : SG) : CLO σ σ := ⟨fun _ _ _ => rfl, fun _ _ _ => rfl⟩
theorem MLO_refl (σ : SG) : MLO σ σ := ⟨fun _ _ _ => rfl, fun _ _ _ => rfl⟩
theorem OUT_refl (t : Nat) (σ : SG) : OUT t σ σ := ⟨fun _ _ _ => rfl, fun _ _ _ _ => rfl, fun _ _ => rfl⟩
theorem OUT_ug {k j : Nat} {v : Int} (h : OUT t σ τ) (hk : t ≤ k ∧ k ≤ t + 13) (hj : ¬ ((k = t + 6 ∨ k = t + 8 ∨ k = t + 10) ∧ j ≤ 1)) : OUT t σ (ug τ k j v) :=
  ⟨fun a b q => by rw [gg_ug_ne _ _ _ _ _ _ (by omega)]; exact h.1 a b q, fun a b q r => by rw [gg_ug_ne _ _ _ _ _ _ (by omega)]; exact h.2.1 a b q r, h.2.2⟩
theorem OUT_ua {k : Nat} {i v : Int} (h : OUT t σ τ) (hk : t ≤ k ∧ k ≤ t + 13) (hj : ¬ (k = t + 6 ∨ k = t + 8 ∨ k = t + 10)) : OUT t σ (ua τ k i v) :=
  ⟨fun a b q => by rw [gg_ua_ne _ _ _ _ _ _ (by omega)]; exact h.1 a b q, fun a b q r => by rw [gg_ua_ne _ _ _ _ _ _ (by omega)]; exact h.2.1 a b q r, h.2.2⟩
theorem OUT_mR {c b n : Nat} {v : Nat → Int} (h : OUT t σ τ) (hk : t ≤ c ∧ c ≤ t + 13) (hj : ¬ (c = t + 6 ∨ c = t + 8 ∨ c = t + 10)) : OUT t σ (mR τ c b n v) :=
  ⟨fun a b q => by rw [gg_mR, if_neg (by omega)]; exact h.1 a b q, fun a b q r => by rw [gg_mR, if_neg (by omega)]; exact h.2.1 a b q r, h.2.2⟩
theorem OUT_trans (h1 : OUT t σ τ) (h2 : OUT t τ υ) : OUT t σ υ :=
  ⟨fun a b q => (h2.1 a b q).trans (h1.1 a b q), fun a b q r => (h2.2.1 a b q r).trans (h1.2.1 a b q r), fun a b => (h2.2.2 a b).trans (h1.2.2 a b)⟩
theorem OUT_TC (h : OUT t σ τ) (hT : TC σ t) : TC τ t := by
  obtain ⟨⟨a1, a2⟩, ⟨a3, a4⟩, a5, a6⟩ := hT
  exact ⟨⟨by rw [h.2.1 _ _ (by omega) (by omega), a1], by rw [h.2.1 _ _ (by omega) (by omega), a2]⟩, ⟨by rw [h.2.1 _ _ (by omega) (by omega), a3], by rw [h.2.1 _ _ (by omega) (by omega), a4]⟩, by rw [h.2.1 _ _ (by omega) (by omega), a5], by rw [h.2.1 _ _ (by omega) (by omega), a6]⟩
theorem OUT_say {l o : Int} : OUT t σ (sayT σ t l o) := OUT_ua (OUT_ua (OUT_refl t σ) (by omega) (by omega)) (by omega) (by omega)
theorem OUT_day : OUT t σ (dayT σ t) := OUT_ug (OUT_mR (OUT_refl t σ) (by omega) (by omega)) (by omega) (by omega)
theorem OUT_days : ∀ (n : Nat) (σ : SG), OUT t σ (daysT t n σ) := by
  intro n
  induction n with
  | zero => intro σ; exact OUT_refl t σ
  | succ n ih =>
    intro σ
    simp only [daysT]
    split
    · exact OUT_refl t σ
    · exact OUT_trans OUT_day (ih _)
theorem OUT_wipe : OUT t σ (wipeT σ t) := OUT_ug (OUT_ug (OUT_ug (OUT_ug (OUT_ug (OUT_ug (OUT_ug (OUT_refl t σ) (by omega) (by omega)) (by omega) (by omega)) (by omega) (by omega)) (by omega) (by omega)) (by omega) (by omega)) (by omega) (by omega)) (by omega) (by omega)
theorem OUT_cp {u : Nat} : OUT t σ (cpT t u σ) := ⟨fun a b q => cpT_else q, fun a b q r => cpT_tc q r, fun _ _ => rfl⟩
theorem OUT_drp : OUT 1 σ (drpC σ) := OUT_ug (OUT_mR (OUT_refl 1 σ) (by omega) (by omega)) (by omega) (by omega)
theorem OUT_remC : OUT 1 σ (remC σ) := OUT_ug (OUT_ua (OUT_mR (OUT_mR (OUT_refl 1 σ) (by omega) (by omega)) (by omega) (by omega)) (by omega) (by omega)) (by omega) (by omega)
theorem OUT_rem : OUT 1 σ (rmbC σ) := by
  unfold rmbC
  split
  · exact OUT_trans OUT_drp OUT_remC
  · exact OUT_remC
theorem OUT_und : OUT 1 σ (undC σ) := OUT_ug (OUT_mR (OUT_mR (OUT_ug (OUT_refl 1 σ) (by omega) (by omega)) (by omega) (by omega)) (by omega) (by omega)) (by omega) (by omega)
theorem CLO_of (h : OUT t σ τ) (ht : t ≤ 50) : CLO σ τ := ⟨fun a b q => h.1 a b (by omega), fun a b _ => h.2.2 a b⟩
theorem CLO_trans (h1 : CLO σ τ) (h2 : CLO τ υ) : CLO σ υ := ⟨fun a b q => (h2.1 a b q).trans (h1.1 a b q), fun a b q => (h2.2 a b q).trans (h1.2 a b q)⟩
theorem MLO_trans (h1 : MLO σ τ) (h2 : MLO τ υ) : MLO σ υ := ⟨fun a b q => (h2.1 a b q).trans (h1.1 a b q), fun a b q => (h2.2 a b q).trans (h1.2 a b q)⟩
theorem CLO_ug {k j : Nat} {v : Int} (h : CLO σ τ) (hk : k ≤ 70) : CLO σ (ug τ k j v) := ⟨fun a b q => by rw [gg_ug_ne _ _ _ _ _ _ (by omega)]; exact h.1 a b q, h.2⟩
theorem CLO_SAM {P : Nat → Nat → Prop} (h : SAM P σ τ) (hk : ∀ a b, P a b → a ≤ 70) : CLO σ τ := ⟨fun a b q => h.1 a b (fun p => by have := hk a b p; omega), fun a b _ => h.2 a b⟩
theorem CR_scr (h : CR σ S) (hs : ∀ a b, CRk a b → gg τ a b = gg σ a b) (hl : ∀ b, gl τ 0 b = gl σ 0 b) : CR τ S := by
  obtain ⟨c1, c2, c3, ⟨c4, c5⟩, ⟨c6, c7⟩, ⟨c8, c9, c10⟩, ⟨c11, c12⟩, t1, t15, t30, t44⟩ := h
  have tc : ∀ t, (∀ b, (t + 6 = 7 ∨ t + 6 = 21 ∨ t + 6 = 36 ∨ t + 6 = 50) → b ≤ 1 → gg τ (t + 6) b = gg σ (t + 6) b ∧ gg τ (t + 8) b = gg σ (t + 8) b ∧ gg τ (t + 10) b = gg σ (t + 10) b) := fun t b q r => ⟨hs _ _ (by unfold CRk; omega), hs _ _ (by unfold CRk; omega), hs _ _ (by unfold CRk; omega)⟩
  have tcc : ∀ t, (t = 1 ∨ t = 15 ∨ t = 30 ∨ t = 44) → TC σ t → TC τ t := fun t q hT => by
    obtain ⟨⟨a1, a2⟩, ⟨a3, a4⟩, a5, a6⟩ := hT
    obtain ⟨x1, x2, x3⟩ := tc t 0 (by omega) (by omega)
    obtain ⟨y1, y2, y3⟩ := tc t 1 (by omega) (by omega)
    exact ⟨⟨x1.trans a1, y1.trans a2⟩, ⟨x2.trans a3, y2.trans a4⟩, x3.trans a5, y3.trans a6⟩
  refine ⟨TRc_same c1 (fun a b h1 h2 => hs a b (by unfold CRk; omega)), fun q => TRc_same (c2 q) (fun a b h1 h2 => hs a b (by unfold CRk; omega)), fun q => TRc_same (c3 q) (fun a b h1 h2 => hs a b (by unfold CRk; omega)), ⟨by rw [hs _ _ (by unfold CRk; omega), c4], by rw [hs _ _ (by unfold CRk; omega), c5]⟩, ⟨by rw [hs _ _ (by unfold CRk; omega), c6], fun i a b => (hs 60 _ (by unfold CRk; omega)).trans (c7 i a b)⟩, ⟨by rw [hs _ _ (by unfold CRk; omega), c8], by rw [hs _ _ (by unfold CRk; omega), c9], by rw [hs _ _ (by unfold CRk; omega), c10]⟩, ⟨by rw [hl, c11], by rw [hl, c12]⟩, tcc 1 (by omega) t1, tcc 15 (by omega) t15, tcc 30 (by omega) t30, tcc 44 (by omega) t44⟩
theorem CR_bmp {j : Nat} {k : Int} (h : CR σ S) (hj : (j = 10 ∧ k = 3) ∨ (j = 11 ∧ k = 4) ∨ (j = 12 ∧ k = 5)) : CR (ug σ 0 j (gg σ 0 j + 1)) (bmp S k) := by
  have hs : ∀ a b, ¬ (a = 0 ∧ b = j) → gg (ug σ 0 j (gg σ 0 j + 1)) a b = gg σ a b := fun a b q => gg_ug_ne _ _ _ _ _ _ q
  have bn : ∀ a x, ¬ (a = 4 ∧ x = k) → bmp S k a x = S a x := fun a x q => by unfold bmp; rw [if_neg q]
  have bk : bmp S k 4 k = wr (S 4 k + 1) := by unfold bmp; rw [if_pos ⟨rfl, rfl⟩]
  have b0 : ∀ a, ¬ a = 4 → bmp S k a = S a := fun a q => funext fun x => bn a x (by omega)
  obtain ⟨c1, c2, c3, ⟨c4, c5⟩, ⟨c6, c7⟩, ⟨c8, c9, c10⟩, ⟨c11, c12⟩, t1, t15, t30, t44⟩ := h
  unfold CR
  rw [b0 0 (by omega), b0 1 (by omega), b0 2 (by omega), b0 3 (by omega), bn 4 0 (by omega), bn 4 1 (by omega), bn 4 2 (by omega), bn 4 6 (by omega), bn 4 7 (by omega)]
  refine ⟨TRc_same c1 (fun a b h1 h2 => hs a b (by omega)), fun q => TRc_same (c2 q) (fun a b h1 h2 => hs a b (by omega)), fun q => TRc_same (c3 q) (fun a b h1 h2 => hs a b (by omega)), ⟨by rw [hs _ _ (by omega), c4], by rw [hs _ _ (by omega), c5]⟩, ⟨by rw [hs _ _ (by omega), c6], fun i a b => (hs 60 _ (by omega)).trans (c7 i a b)⟩, ?_, ⟨c11, c12⟩, TC_same t1 (fun a b h1 h2 => hs a b (by omega)), TC_same t15 (fun a b h1 h2 => hs a b (by omega)), TC_same t30 (fun a b h1 h2 => hs a b (by omega)), TC_same t44 (fun a b h1 h2 => hs a b (by omega))⟩
  rcases hj with ⟨rfl, rfl⟩ | ⟨rfl, rfl⟩ | ⟨rfl, rfl⟩
  · exact ⟨by rw [gg_ug_eq, bk, c8], by rw [hs _ _ (by omega), bn _ _ (by omega), c9], by rw [hs _ _ (by omega), bn _ _ (by omega), c10]⟩
  · exact ⟨by rw [hs _ _ (by omega), bn _ _ (by omega), c8], by rw [gg_ug_eq, bk, c9], by rw [hs _ _ (by omega), bn _ _ (by omega), c10]⟩
  · exact ⟨by rw [hs _ _ (by omega), bn _ _ (by omega), c8], by rw [hs _ _ (by omega), bn _ _ (by omega), c9], by rw [gg_ug_eq, bk, c10]⟩
theorem CR_row (h : CR σ S) (hT : TRc τ 1 g) (ho : OUT 1 σ τ) : CR τ (setR S g) := by
  have hs : ∀ a b, ¬ (1 ≤ a ∧ a ≤ 14) → gg τ a b = gg σ a b := fun a b q => ho.1 a b (by omega)
  have s0 : setR S g 0 = g := by unfold setR; rw [if_pos rfl]
  have sn : ∀ a, ¬ a = 0 → setR S g a = S a := fun a q => by unfold setR; rw [if_neg q]
  obtain ⟨c1, c2, c3, ⟨c4, c5⟩, ⟨c6, c7⟩, ⟨c8, c9, c10⟩, ⟨c11, c12⟩, t1, t15, t30, t44⟩ := h
  unfold CR
  rw [s0, sn 1 (by omega), sn 2 (by omega), sn 3 (by omega), sn 4 (by omega)]
  exact ⟨hT, fun q => TRc_same (c2 q) (fun a b h1 h2 => hs a b (by omega)), fun q => TRc_same (c3 q) (fun a b h1 h2 => hs a b (by omega)), ⟨by rw [hs _ _ (by omega), c4], by rw [hs _ _ (by omega), c5]⟩, ⟨by rw [hs _ _ (by omega), c6], fun i a b => (hs 60 _ (by omega)).trans (c7 i a b)⟩, ⟨by rw [hs _ _ (by omega), c8], by rw [hs _ _ (by omega), c9], by rw [hs _ _ (by omega), c10]⟩, ⟨by rw [ho.2.2, c11], by rw [ho.2.2, c12]⟩, OUT_TC ho t1, TC_same t15 (fun a b h1 h2 => hs a b (by omega)), TC_same t30 (fun a b h1 h2 => hs a b (by omega)), TC_same t44 (fun a b h1 h2 => hs a b (by omega))⟩
/-- what the class's state gives -/
theorem CR_T (h : CR σ S) (hS : SOK S) : TOK σ 1 ∧ SEEN σ ∧ NOTE σ ∧ MARK σ ∧ gg σ 1 0 = S 0 13 ∧ gg σ 1 1 = S 0 28 ∧ gg σ 1 2 = S 0 0 ∧ gg σ 13 1 = S 0 116 :=
  have c1 := h.1
  have t1 := h.2.2.2.2.2.2.2.1
  ⟨TOK_of c1 hS.1, SEEN_of c1 hS.1 t1, NOTE_of c1 hS.1 t1, MARK_of c1 hS.1 t1, c1.1.1, c1.1.2.1, c1.1.2.2, c1.2.2.2.2.2.2.1⟩
theorem OP_bad (h : CR σ S) : OPC σ (fBad S) (.inl (-2)) (ug σ 0 10 (gg σ 0 10 + 1)) := ⟨rfl, CR_bmp h (by omega), CLO_ug (CLO_refl σ) (by omega)⟩
theorem OP_badT (h : CR σ S) : OPC σ (fBadT S) (.inl (-10)) (ug σ 0 10 (gg σ 0 10 + 1)) := ⟨rfl, CR_bmp h (by omega), CLO_ug (CLO_refl σ) (by omega)⟩
theorem OP_no (h : CR σ S) : OPC σ (fNo S) (.inl (-3)) (ug σ 0 11 (gg σ 0 11 + 1)) := ⟨rfl, CR_bmp h (by omega), CLO_ug (CLO_refl σ) (by omega)⟩
theorem OP_full (h : CR σ S) : OPC σ (fFull S) (.inl (-4)) (ug σ 0 12 (gg σ 0 12 + 1)) := ⟨rfl, CR_bmp h (by omega), CLO_ug (CLO_refl σ) (by omega)⟩
theorem OP_row {v : Int} (h : CR σ S) (hT : TRc τ 1 g) (ho : OUT 1 σ τ) : OPC σ (v, setR S g) (.inl v) τ := ⟨rfl, CR_row h hT ho, CLO_of ho (by omega)⟩
theorem OP_id {v : Int} (h : CR σ S) : OPC σ (v, S) (.inl v) σ := ⟨rfl, h, CLO_refl σ⟩
end FRAMES
