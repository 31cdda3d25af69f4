-- the reference: frames, rows, the simple operations
def RW (σ : SG) (m : Nat) (N : Int) (g : Int → Int) : Prop := ∀ i : Int, 0 ≤ i → i < N → ga σ m i = g i
def ONE (m : Nat) (σ τ : SG) : Prop := (∀ a b, ¬ a = m → gg τ a b = gg σ a b) ∧ ∀ a b, gl τ a b = gl σ a b
def MRk (a b : Nat) : Prop := a = 72 ∨ a = 75 ∨ a = 76 ∨ a = 77 ∨ a = 78 ∨ (a = 71 ∧ b = 9)
section MFRAME
variable {σ τ υ : SG} {S : Nat → Int → Int} {g : Int → Int} {m : Nat} {N : Int}
theorem ONE_refl (m : Nat) (σ : SG) : ONE m σ σ := ⟨fun _ _ _ => rfl, fun _ _ => rfl⟩
theorem ONE_trans (h1 : ONE m σ τ) (h2 : ONE m τ υ) : ONE m σ υ := ⟨fun a b q => (h2.1 a b q).trans (h1.1 a b q), fun a b => (h2.2 a b).trans (h1.2 a b)⟩
theorem ONE_ua {i v : Int} (h : ONE m σ τ) : ONE m σ (ua τ m i v) := ⟨fun a b q => by rw [gg_ua_ne _ _ _ _ _ _ q]; exact h.1 a b q, h.2⟩
theorem ONE_mR {b n : Nat} {v : Nat → Int} (h : ONE m σ τ) : ONE m σ (mR τ m b n v) := ⟨fun a x q => by rw [gg_mR, if_neg q]; exact h.1 a x q, h.2⟩
theorem MLO_one (h : ONE m σ τ) (hm : 71 ≤ m) : MLO σ τ := ⟨fun a b q => h.1 a b (by omega), fun a b _ => h.2 a b⟩
theorem MLO_SAM {P : Nat → Nat → Prop} (h : SAM P σ τ) (hk : ∀ a b, P a b → 71 ≤ a) : MLO σ τ := ⟨fun a b q => h.1 a b (fun p => by have := hk a b p; omega), fun a b _ => h.2 a b⟩
theorem MR_scr (h : MR σ S) (hs : ∀ a b, MRk a b → gg τ a b = gg σ a b) (hl : ∀ b, gl τ 71 b = gl σ 71 b) : MR τ S := by
  obtain ⟨c1, c2, c3, ⟨c4, c5⟩, ⟨c6, c7⟩, ⟨c8, c9, c10⟩, c11, c12⟩ := h
  refine ⟨fun i a b => (hs 72 _ (by unfold MRk; omega)).trans (c1 i a b), fun q i a b => (hs 75 _ (by unfold MRk; omega)).trans (c2 q i a b), fun q i a b => (hs 75 _ (by unfold MRk; omega)).trans (c3 q i a b), ⟨(hs 76 _ (by unfold MRk; omega)).trans c4, (hs 76 _ (by unfold MRk; omega)).trans c5⟩, ⟨(hs 71 9 (by unfold MRk; omega)).trans c6, fun i a b => (hs 78 _ (by unfold MRk; omega)).trans (c7 i a b)⟩, ⟨(hs 77 _ (by unfold MRk; omega)).trans c8, (hs 77 _ (by unfold MRk; omega)).trans c9, (hs 77 _ (by unfold MRk; omega)).trans c10⟩, (hl 6).trans c11, (hl 7).trans c12⟩
theorem MR_bmp {i k : Int} (h : MR σ S) (hj : (i = 0 ∧ k = 3) ∨ (i = 1 ∧ k = 4) ∨ (i = 2 ∧ k = 5)) : MR (ua σ 77 i (ga σ 77 i + 1)) (bmp S k) := by
  have hs : ∀ a b, ¬ a = 77 → gg (ua σ 77 i (ga σ 77 i + 1)) a b = gg σ a b := fun a b q => gg_ua_ne _ _ _ _ _ _ q
  have bn : ∀ a x, ¬ (a = 4 ∧ x = k) → bmp S k a x = S a x := fun a x q => by unfold bmp; rw [if_neg q]
  have bk : bmp S k 4 k = wr (S 4 k + 1) := by unfold bmp; rw [if_pos ⟨rfl, rfl⟩]
  have b0 : ∀ a, ¬ a = 4 → bmp S k a = S a := fun a q => funext fun x => bn a x (by omega)
  obtain ⟨c1, c2, c3, ⟨c4, c5⟩, ⟨c6, c7⟩, ⟨c8, c9, c10⟩, c11, c12⟩ := h
  unfold MR
  rw [b0 0 (by omega), b0 1 (by omega), b0 2 (by omega), b0 3 (by omega), bn 4 0 (by omega), bn 4 1 (by omega), bn 4 2 (by omega), bn 4 6 (by omega), bn 4 7 (by omega)]
  refine ⟨fun i a b => (hs 72 _ (by omega)).trans (c1 i a b), fun q i a b => (hs 75 _ (by omega)).trans (c2 q i a b), fun q i a b => (hs 75 _ (by omega)).trans (c3 q i a b), ⟨(hs 76 _ (by omega)).trans c4, (hs 76 _ (by omega)).trans c5⟩, ⟨(hs 71 9 (by omega)).trans c6, fun i a b => (hs 78 _ (by omega)).trans (c7 i a b)⟩, ?_, c11, c12⟩
  rcases hj with ⟨rfl, rfl⟩ | ⟨rfl, rfl⟩ | ⟨rfl, rfl⟩
  · exact ⟨by rw [ga_ua_eq, bk, c8], by rw [ga_ua_ni _ _ _ _ _ (by omega) (by omega) (by omega), bn _ _ (by omega), c9], by rw [ga_ua_ni _ _ _ _ _ (by omega) (by omega) (by omega), bn _ _ (by omega), c10]⟩
  · exact ⟨by rw [ga_ua_ni _ _ _ _ _ (by omega) (by omega) (by omega), bn _ _ (by omega), c8], by rw [ga_ua_eq, bk, c9], by rw [ga_ua_ni _ _ _ _ _ (by omega) (by omega) (by omega), bn _ _ (by omega), c10]⟩
  · exact ⟨by rw [ga_ua_ni _ _ _ _ _ (by omega) (by omega) (by omega), bn _ _ (by omega), c8], by rw [ga_ua_ni _ _ _ _ _ (by omega) (by omega) (by omega), bn _ _ (by omega), c9], by rw [ga_ua_eq, bk, c10]⟩
theorem MR_row (h : MR σ S) (hr : RW τ 72 221 g) (ho : ONE 72 σ τ) : MR τ (setR S g) := by
  have s0 : setR S g 0 = g := by unfold setR; rw [if_pos rfl]
  have sn : ∀ a, ¬ a = 0 → setR S g a = S a := fun a q => by unfold setR; rw [if_neg q]
  obtain ⟨c1, c2, c3, ⟨c4, c5⟩, ⟨c6, c7⟩, ⟨c8, c9, c10⟩, c11, c12⟩ := h
  unfold MR
  rw [s0, sn 1 (by omega), sn 2 (by omega), sn 3 (by omega), sn 4 (by omega)]
  exact ⟨hr, fun q i a b => (ho.1 75 _ (by omega)).trans (c2 q i a b), fun q i a b => (ho.1 75 _ (by omega)).trans (c3 q i a b), ⟨(ho.1 76 _ (by omega)).trans c4, (ho.1 76 _ (by omega)).trans c5⟩, ⟨(ho.1 71 9 (by omega)).trans c6, fun i a b => (ho.1 78 _ (by omega)).trans (c7 i a b)⟩, ⟨(ho.1 77 _ (by omega)).trans c8, (ho.1 77 _ (by omega)).trans c9, (ho.1 77 _ (by omega)).trans c10⟩, (ho.2 71 6).trans c11, (ho.2 71 7).trans c12⟩
theorem MO_bad (h : MR σ S) : OPM σ (fBad S) (.inl (-2)) (ua σ 77 0 (ga σ 77 0 + 1)) := ⟨rfl, MR_bmp h (by omega), MLO_one (ONE_ua (ONE_refl 77 σ)) (by omega)⟩
theorem MO_badT (h : MR σ S) : OPM σ (fBadT S) (.inl (-10)) (ua σ 77 0 (ga σ 77 0 + 1)) := ⟨rfl, MR_bmp h (by omega), MLO_one (ONE_ua (ONE_refl 77 σ)) (by omega)⟩
theorem MO_no (h : MR σ S) : OPM σ (fNo S) (.inl (-3)) (ua σ 77 1 (ga σ 77 1 + 1)) := ⟨rfl, MR_bmp h (by omega), MLO_one (ONE_ua (ONE_refl 77 σ)) (by omega)⟩
theorem MO_full (h : MR σ S) : OPM σ (fFull S) (.inl (-4)) (ua σ 77 2 (ga σ 77 2 + 1)) := ⟨rfl, MR_bmp h (by omega), MLO_one (ONE_ua (ONE_refl 77 σ)) (by omega)⟩
theorem MO_row {v : Int} (h : MR σ S) (hr : RW τ 72 221 g) (ho : ONE 72 σ τ) : OPM σ (v, setR S g) (.inl v) τ := ⟨rfl, MR_row h hr ho, MLO_one ho (by omega)⟩
theorem MO_id {v : Int} (h : MR σ S) : OPM σ (v, S) (.inl v) σ := ⟨rfl, h, MLO_refl σ⟩
theorem MO_scr {v : Int} {P : Nat → Nat → Prop} (h : MR σ S) (hs : SAM P σ τ) (hp : ∀ a b, P a b → 71 ≤ a ∧ ¬ MRk a b) : OPM σ (v, S) (.inl v) τ := ⟨rfl, MR_scr h (fun a b q => hs.1 a b (fun p => (hp a b p).2 q)) (fun b => hs.2 71 b), MLO_SAM hs (fun a b p => (hp a b p).1)⟩
theorem MOKn (h : RW σ m N g) (hN : 34 ≤ N) (hg : GOK g) : MOK σ m := by
  obtain ⟨g1, g2, g3, g4, g5, -⟩ := hg
  have e13 := h 13 (by omega) (by omega)
  have e28 := h 28 (by omega) (by omega)
  have e0 := h 0 (by omega) (by omega)
  refine ⟨by omega, by omega, by omega, fun l h1 h2 => ?_, fun o h1 h2 => ?_⟩
  · rw [h (14 + l) (by omega) (by omega), h (21 + l) (by omega) (by omega), h (6 + l) (by omega) (by omega)]
    exact g4 l h1 (by omega)
  · rw [h (29 + o) (by omega) (by omega), h (1 + o) (by omega) (by omega)]
    exact g5 o h1 (by omega)
theorem ltM_G (h : RW σ m N g) (hN : 34 ≤ N) (hg : GOK g) {l : Int} (hl : 0 ≤ l ∧ l < g 13) : ltM σ m l = ltG g l := by
  have g1 := hg.1
  unfold ltM ltG
  rw [h (14 + l) (by omega) (by omega), h (21 + l) (by omega) (by omega), h (6 + l) (by omega) (by omega), h 0 (by omega) (by omega)]
theorem tkM_G (h : RW σ m N g) (hN : 34 ≤ N) (hg : GOK g) {l o : Int} (hl : 0 ≤ l ∧ l < g 13) (ho : 0 ≤ o ∧ o < g 28) : tkM σ m o l = tkG g o l := by
  have g2 := hg.2.1
  unfold tkM tkG
  rw [ltM_G h hN hg hl, h (29 + o) (by omega) (by omega), h (1 + o) (by omega) (by omega)]
theorem RW_say (h : RW σ m N g) (hN : 34 ≤ N) (hg : GOK g) {l o : Int} (hl : 0 ≤ l ∧ l < g 13) (ho : 0 ≤ o ∧ o < g 28) : RW (sayM σ m l o) m N (rSay g l o) := by
  have et := tkM_G h hN hg hl ho
  have bt := (tkG_b hg hl ho).2
  obtain ⟨g1, g2, g3, g4, g5, -⟩ := hg
  obtain ⟨y1, y2, y3⟩ := g4 l hl.1 hl.2
  obtain ⟨y4, y5⟩ := g5 o ho.1 ho.2
  have bk := kn1_b y3
  have bh := heI_b (m := tkG g o l) y5 bt.1
  intro i h0 h1
  unfold sayM rSay
  rw [et, h (6 + l) (by omega) (by omega), h (1 + o) (by omega) (by omega)]
  by_cases c : i = 6 + l
  · subst c
    rw [ga_ua_eq, if_pos rfl, wr_id ⟨by omega, by omega⟩]
  · rw [ga_ua_ni _ _ _ _ _ (by omega) h0 c, if_neg c]
    by_cases c2 : i = 1 + o
    · subst c2
      rw [ga_ua_eq, if_pos rfl, wr_id ⟨by omega, by omega⟩]
    · rw [ga_ua_ni _ _ _ _ _ (by omega) h0 c2, if_neg c2]
      exact h i h0 h1
theorem RW_day (h : RW σ m N g) (hN : 34 ≤ N) (hg : g 0 ≤ 100000 ∧ 0 ≤ g 0) : RW (dayM σ m) m N (rDay g) := by
  intro i h0 h1
  have e0 := h 0 (by omega) (by omega)
  unfold dayM rDay
  by_cases c0 : i = 0
  · subst c0
    rw [ga_ua_eq, if_neg (by omega), if_pos rfl, e0, wr_id ⟨by omega, by omega⟩]
  · rw [ga_ua_ni _ _ _ _ _ (by omega) h0 c0, if_neg c0, ga_mR _ _ _ _ _ _ h0, if_pos rfl]
    by_cases c : 1 ≤ i ∧ i < 6
    · rw [if_pos ⟨by omega, by omega⟩, if_pos c, show (1 + ((i.toNat - 1 : Nat) : Int)) = i by omega, ← h i h0 h1]
      have hr := ga_in σ m i
      have hb : InR (coI (ga σ m i) 1) := by
        obtain ⟨r1, r2⟩ := hr
        unfold coI
        split
        · exact ⟨by omega, by omega⟩
        · exact ⟨by omega, by omega⟩
      exact wr_id hb
    · rw [if_neg (by omega), if_neg c]
      exact h i h0 h1
theorem RW_lie (h : RW σ m 221 g) (hg : GOK g) {kd u : Int} (h7 : g 13 < 7) (hk : InR kd) (hu : InR u) : RW (ua (ua (ua (ua σ m (14 + ga σ m 13) kd) m (21 + ga σ m 13) u) m (6 + ga σ m 13) 0) m 13 (ga σ m 13 + 1)) m 221 (rLie g kd u) := by
  have e13 := h 13 (by omega) (by omega)
  have g1 := hg.1
  intro i h0 h1
  unfold rLie
  rw [e13]
  by_cases c13 : i = 13
  · subst c13
    rw [ga_ua_eq, if_neg (by omega), if_neg (by omega), if_neg (by omega), if_pos rfl, wr_id ⟨by omega, by omega⟩]
  · rw [ga_ua_ni _ _ _ _ _ (by omega) h0 c13, if_neg c13]
    by_cases c6 : i = 6 + g 13
    · subst c6
      rw [ga_ua_eq, if_neg (by omega), if_neg (by omega), if_pos rfl]
      rfl
    · rw [ga_ua_ni _ _ _ _ _ (by omega) h0 c6, if_neg c6]
      by_cases c21 : i = 21 + g 13
      · subst c21
        rw [ga_ua_eq, if_neg (by omega), if_pos rfl, wr_id hu]
      · rw [ga_ua_ni _ _ _ _ _ (by omega) h0 c21, if_neg c21]
        by_cases c14 : i = 14 + g 13
        · subst c14
          rw [ga_ua_eq, if_pos rfl, wr_id hk]
        · rw [ga_ua_ni _ _ _ _ _ (by omega) h0 c14, if_neg c14]
          exact h i h0 h1
theorem RW_oven (h : RW σ m 221 g) (hg : GOK g) {kd : Int} (h7 : g 28 < 5) (hk : InR kd) : RW (ua (ua (ua σ m (29 + ga σ m 28) kd) m (1 + ga σ m 28) 0) m 28 (ga σ m 28 + 1)) m 221 (rOven g kd) := by
  have e28 := h 28 (by omega) (by omega)
  have g2 := hg.2.1
  intro i h0 h1
  unfold rOven
  rw [e28]
  by_cases c28 : i = 28
  · subst c28
    rw [ga_ua_eq, if_neg (by omega), if_neg (by omega), if_pos rfl, wr_id ⟨by omega, by omega⟩]
  · rw [ga_ua_ni _ _ _ _ _ (by omega) h0 c28, if_neg c28]
    by_cases c6 : i = 1 + g 28
    · subst c6
      rw [ga_ua_eq, if_neg (by omega), if_pos rfl]
      rfl
    · rw [ga_ua_ni _ _ _ _ _ (by omega) h0 c6, if_neg c6]
      by_cases c14 : i = 29 + g 28
      · subst c14
        rw [ga_ua_eq, if_pos rfl, wr_id hk]
      · rw [ga_ua_ni _ _ _ _ _ (by omega) h0 c14, if_neg c14]
        exact h i h0 h1
theorem RW_0 (h : RW σ m N g) {k : Int} (hk : 0 ≤ k) : RW (ua σ m k 0) m N (r0 g k) := by
  intro i h0 h1
  unfold r0
  by_cases c : i = k
  · subst c
    rw [ga_ua_eq, if_pos rfl]
    rfl
  · rw [ga_ua_ni _ _ _ _ _ hk h0 c, if_neg c]
    exact h i h0 h1
theorem RW_hot (h : RW σ m N g) (hN : 34 ≤ N) (hg : GOK g) : sumF (hotF σ m 1) 0 (ga σ m 28).toNat = hotG g := by
  have g2 := hg.2.1
  unfold hotG
  rw [h 28 (by omega) (by omega)]
  refine sumF_congr _ _ (fun j _ hj => ?_)
  unfold hotF
  rw [h (1 + (j : Int)) (by omega) (by omega)]
  rfl
theorem RW_heat (h : RW σ m N g) (hN : 34 ≤ N) (hg : GOK g) : sumF (fun j => ga σ m (1 + (j : Int))) 0 (ga σ m 28).toNat = heatG g := by
  have g2 := hg.2.1
  unfold heatG
  rw [h 28 (by omega) (by omega)]
  exact sumF_congr _ _ (fun j _ hj => h (1 + (j : Int)) (by omega) (by omega))
theorem RW_other {m2 : Nat} (h : RW σ m N g) (ho : ONE m2 σ τ) (hne : ¬ m = m2) : RW τ m N g := fun i a b => (ho.1 m _ hne).trans (h i a b)
end MFRAME
