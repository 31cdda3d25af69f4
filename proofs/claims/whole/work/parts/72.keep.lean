-- what an operation leaves is a state again, and what it answers is an int
def KEEP (F : AS) : Prop := SOK F.2 ∧ InR F.1
section KEEPS
variable {d : Nat} {σ : SG} {S : Nat → Int → Int}
theorem SOK_44 {S' : Nat → Int → Int} (hS : SOK S) (h0 : ∀ a, a ≤ 3 → S' a = S a) (h4 : ∀ k : Int, k ≤ 2 → S' 4 k = S 4 k) : SOK S' := by
  unfold SOK
  rw [h0 0 (by omega), h0 1 (by omega), h0 2 (by omega), h0 3 (by omega), h4 0 (by omega), h4 1 (by omega), h4 2 (by omega)]
  exact hS
theorem SOK_bmp {k : Int} (hS : SOK S) (hk : 3 ≤ k) : SOK (bmp S k) :=
  SOK_44 hS (fun a q => by funext x; unfold bmp; rw [if_neg (by omega)]) (fun j q => by unfold bmp; rw [if_neg (by omega)])
theorem KP_bad (hS : SOK S) : KEEP (fBad S) := ⟨SOK_bmp hS (by omega), by unfold fBad InR; omega⟩
theorem KP_badT (hS : SOK S) : KEEP (fBadT S) := ⟨SOK_bmp hS (by omega), by unfold fBadT InR; omega⟩
theorem KP_no (hS : SOK S) : KEEP (fNo S) := ⟨SOK_bmp hS (by omega), by unfold fNo InR; omega⟩
theorem KP_full (hS : SOK S) : KEEP (fFull S) := ⟨SOK_bmp hS (by omega), by unfold fFull InR; omega⟩
theorem SOK_row {g : Int → Int} (hS : SOK S) (hg : GOK g) (h0 : g 0 ≤ 9999) : SOK (setR S g) := by
  obtain ⟨s1, s2, s3, ⟨s4, s5, s6⟩, s7, s8, s9⟩ := hS
  have e0 : setR S g 0 = g := by unfold setR; rw [if_pos rfl]
  have en : ∀ a, ¬ a = 0 → setR S g a = S a := fun a q => by unfold setR; rw [if_neg q]
  unfold SOK
  rw [e0, en 1 (by omega), en 2 (by omega), en 3 (by omega), en 4 (by omega)]
  exact ⟨hg, s2, s3, ⟨h0, s5, s6⟩, s7, s8, s9⟩
theorem KP_row {g : Int → Int} {v : Int} (hS : SOK S) (hg : GOK g) (h0 : g 0 ≤ 9999) (hv : InR v) : KEEP (v, setR S g) := ⟨SOK_row hS hg h0, hv⟩
theorem KP_id {v : Int} (hS : SOK S) (hv : InR v) : KEEP (v, S) := ⟨hS, hv⟩
theorem g0_9 (hS : SOK S) : S 0 0 ≤ 9999 := hS.2.2.2.1.1
theorem w0 (hS : SOK S) : KEEP (fTown S) := by
  have g13 := hS.1.1
  exact KP_row hS (GOK_zero (fun _ _ _ => rfl)) (by omega) (by unfold InR; omega)
theorem w1 (hS : SOK S) {kd u : Int} : KEEP (fLie S kd u) := by
  have g13 := hS.1.1
  have h9 := g0_9 hS
  unfold fLie
  split
  · split
    · exact KP_full hS
    · have hz := GOK_r0 hS.1 (z := 116) (by omega)
      have e13 : r0 (S 0) 116 13 = S 0 13 := by unfold r0; rw [if_neg (by omega)]
      have e116 : r0 (S 0) 116 116 = 0 := by unfold r0; rw [if_pos rfl]
      refine KP_row hS (GOK_lie (kd := kd) (u := u) hz (by omega) e116 (by omega) (by omega)) ?_ (by unfold InR; omega)
      unfold rLie
      rw [e13, if_neg (by omega), if_neg (by omega), if_neg (by omega), if_neg (by omega)]
      unfold r0
      rw [if_neg (by omega)]
      exact h9
  · exact KP_bad hS
theorem w2 (hS : SOK S) {kd : Int} : KEEP (fOven S kd) := by
  have g28 := hS.1.2.1
  have h9 := g0_9 hS
  unfold fOven
  split
  · split
    · exact KP_full hS
    · have hz := GOK_r0 hS.1 (z := 116) (by omega)
      have e28 : r0 (S 0) 116 28 = S 0 28 := by unfold r0; rw [if_neg (by omega)]
      have e116 : r0 (S 0) 116 116 = 0 := by unfold r0; rw [if_pos rfl]
      refine KP_row hS (GOK_oven (kd := kd) hz (by omega) e116 (by omega)) ?_ (by unfold InR; omega)
      unfold rOven
      rw [e28, if_neg (by omega), if_neg (by omega), if_neg (by omega)]
      unfold r0
      rw [if_neg (by omega)]
      exact h9
  · exact KP_bad hS
theorem w3 (hS : SOK S) {c : Int} : KEEP (fType S c) := by
  obtain ⟨s1, s2, s3, s4, s7, s8, s9, s10⟩ := hS
  have hS : SOK S := ⟨s1, s2, s3, s4, s7, s8, s9, s10⟩
  unfold fType
  split
  · split
    · exact KP_full hS
    · refine ⟨?_, by unfold InR; omega⟩
      have e0 : ∀ a, a ≤ 2 → addT S c a = S a := fun a q => by funext x; unfold addT; rw [if_neg (by omega), if_neg (by omega)]
      have e4 : ∀ x : Int, ¬ x = 2 → addT S c 4 x = S 4 x := fun x q => by unfold addT; rw [if_neg (by omega), if_neg (by omega)]
      have e42 : addT S c 4 2 = S 4 2 + 1 := by unfold addT; rw [if_pos ⟨rfl, rfl⟩]
      show SOK (addT S c)
      unfold SOK
      rw [e0 0 (by omega), e0 1 (by omega), e0 2 (by omega), e4 0 (by omega), e4 1 (by omega), e42]
      refine ⟨s1, s2, s3, s4, s7, s8, ⟨by omega, by omega⟩, fun i a b => ?_⟩
      unfold addT
      rw [if_neg (by omega)]
      split
      · omega
      · exact s10 i a (by omega)
  · exact KP_bad hS
theorem w4 (hS : SOK S) : KEEP (fClear S) := by
  obtain ⟨s1, s2, s3, s4, s7, s8, s9, s10⟩ := hS
  refine ⟨?_, by unfold fClear InR; dsimp only; omega⟩
  show SOK (set4 S 2 0)
  have e0 : ∀ a, a ≤ 3 → set4 S 2 0 a = S a := fun a q => by funext x; unfold set4; rw [if_neg (by omega)]
  have e4 : ∀ x : Int, ¬ x = 2 → set4 S 2 0 4 x = S 4 x := fun x q => by unfold set4; rw [if_neg (by omega)]
  have e42 : set4 S 2 0 4 2 = 0 := by unfold set4; rw [if_pos ⟨rfl, rfl⟩]
  unfold SOK
  rw [e0 0 (by omega), e0 1 (by omega), e0 2 (by omega), e0 3 (by omega), e4 0 (by omega), e4 1 (by omega), e42]
  exact ⟨s1, s2, s3, s4, s7, s8, ⟨by omega, by omega⟩, fun i a b => by omega⟩
theorem w5 (hS : SOK S) : KEEP (fRead S) := by
  have hp := parF_ok (txB_ok hS)
  unfold fRead
  split
  · exact KP_row hS hp.1.1 hp.1.2.1 (by unfold InR; omega)
  · exact KP_id hS (by unfold InR; omega)
theorem rem0 (hS : SOK S) : GOK (rRem (S 0)) ∧ rRem (S 0) 0 ≤ 9999 := by
  have h9 := g0_9 hS
  refine ⟨GOK_rem hS.1 h9, ?_⟩
  rw [rRem_lo hS.1 (by omega)]
  exact h9
theorem w6 (hS : SOK S) {n : Int} : KEEP (fDays S n) := by
  obtain ⟨h1, h2⟩ := rem0 hS
  unfold fDays
  split
  · obtain ⟨h3, h4⟩ := GOK_days n.toNat _ h1 h2
    have hb := hotG_b h3
    exact KP_row hS h3 h4 (by unfold InR; omega)
  · exact KP_bad hS
theorem w7 (hS : SOK S) {l o : Int} : KEEP (fSays S l o) := by
  obtain ⟨h1, h2⟩ := rem0 hS
  have e13 := rRem_lo hS.1 (i := 13) (by omega)
  have e28 := rRem_lo hS.1 (i := 28) (by omega)
  have g28 := hS.1.2.1
  unfold fSays
  split
  · rename_i hc
    unfold hasL hasO at hc
    have h3 := GOK_say h1 (l := l) (o := o) (by omega) (by omega)
    have f28 : rSay (rRem (S 0)) l o 28 = S 0 28 := by
      have g13 := hS.1.1
      unfold rSay; rw [if_neg (by omega), if_neg (by omega), e28]
    have h4 := (h3.2.2.2.2.1 o (by omega) (by omega)).2
    refine KP_row hS h3 ?_ (by unfold InR; omega)
    unfold rSay
    rw [if_neg (by omega), if_neg (by omega)]
    exact h2
  · exact KP_bad hS
theorem w8 (hS : SOK S) {l : Int} : KEEP (fForgets S l) := by
  obtain ⟨h1, h2⟩ := rem0 hS
  have e13 := rRem_lo hS.1 (i := 13) (by omega)
  unfold fForgets
  split
  · rename_i hc
    unfold hasL at hc
    split
    · exact KP_no hS
    · have h3 := GOK_forget h1 (l := l) (by omega)
      have h4 := hS.1.2.2.2.1 l (by omega) (by omega)
      refine KP_row hS h3 ?_ (by unfold InR; omega)
      unfold r0
      rw [if_neg (by omega)]
      exact h2
  · exact KP_bad hS
theorem w9 (hS : SOK S) : KEEP (fUndo S) := by
  unfold fUndo
  split
  · rename_i hc
    obtain ⟨h1, h2⟩ := GOK_undo hS.1 hc
    have h3 := h1.2.2.1
    exact KP_row hS h1 h2 (by unfold InR; omega)
  · exact KP_no hS
theorem w10 (hS : SOK S) {l w : Int} : KEEP (fOf S l w) := by
  unfold fOf
  split
  · rename_i hc
    unfold hasL at hc
    have h4 := hS.1.2.2.2.1 l (by omega) (by omega)
    refine KP_id hS ?_
    by_cases h28 : 0 < S 0 28
    · have h5 := (tkG_b hS.1 (l := l) (o := 0) (by omega) (by omega)).1
      unfold InR
      split
      · omega
      · split
        · omega
        · split <;> omega
    · have h0 := hS.1.2.2.1
      have h5 := ltI_b (kind := S 0 (14 + l)) (u := S 0 (21 + l)) (k := S 0 (6 + l)) (x := S 0 0) (by omega) (by omega)
      unfold InR ltG
      split
      · omega
      · split
        · omega
        · split <;> omega
  · exact KP_bad hS
theorem w11 (hS : SOK S) {o w : Int} : KEEP (fAbout S o w) := by
  unfold fAbout
  split
  · rename_i hc
    unfold hasO at hc
    have h4 := hS.1.2.2.2.2.1 o (by omega) (by omega)
    have hb := hot1_b (S 0 (1 + o))
    refine KP_id hS ?_
    unfold InR
    split
    · omega
    · split <;> omega
  · exact KP_bad hS
theorem w12 (hS : SOK S) {o l : Int} : KEEP (fTakes S o l) := by
  unfold fTakes
  split
  · rename_i hc
    unfold hasL hasO at hc
    have h5 := (tkG_b hS.1 (l := l) (o := o) (by omega) (by omega)).2
    exact KP_id hS (by unfold InR; omega)
  · exact KP_bad hS
theorem w13 (hS : SOK S) {o m : Int} : KEEP (fThen S o m) := by
  unfold fThen
  split
  · rename_i hc
    unfold hasO at hc
    have h4 := hS.1.2.2.2.2.1 o (by omega) (by omega)
    have h5 := coI_b (h := S 0 (1 + o)) (m := m) (by omega) (by omega)
    exact KP_id hS (by unfold InR; omega)
  · exact KP_bad hS
theorem w14 (hS : SOK S) {o : Int} : KEEP (fCold S o) := by
  unfold fCold
  split
  · rename_i hc
    unfold hasO at hc
    have h4 := hS.1.2.2.2.2.1 o (by omega) (by omega)
    refine KP_id hS ?_
    unfold InR coldV
    split <;> omega
  · exact KP_bad hS
theorem w15 (h : CR σ S) (hS : SOK S) {o k : Int} : KEEP (fFew S o k) := by
  obtain ⟨hO, hE, hN, hM, e0, e1, e2, e13⟩ := CR_T h hS
  have g13 := hS.1.1
  unfold fFew
  split
  · rename_i hc
    obtain ⟨hc, hk⟩ := hc
    unfold hasO at hc
    refine KP_id hS ?_
    obtain ⟨r, τ, -, -, hr⟩ := m0 (d := 0) (o := o) (n := (S 0 13).toNat) hO (by omega) (by omega)
    rw [fewD_G h.1 hS.1 hc] at hr
    cases hD : fewD (S 0) o with
    | none => simp only [fewV]; unfold InR; omega
    | some L =>
      rw [hD] at hr
      obtain ⟨-, hL, hv⟩ := hr
      simp only [fewV]
      split
      · unfold InR; omega
      · split
        · have := hv k.toNat (by omega)
          rw [← this]
          exact ga_in _ _ _
        · unfold InR; omega
  · exact KP_badT hS
theorem w16 (h : CR σ S) (hS : SOK S) {o : Int} : KEEP (fRound S o) := by
  obtain ⟨hO, hE, hN, hM, e0, e1, e2, e13⟩ := CR_T h hS
  have g13 := hS.1.1
  have g28 := hS.1.2.1
  obtain ⟨r, τ, -, -, -, hB1, hB2, hB3⟩ := m22 (d := 0) (n := (S 0 13).toNat) (O := (S 0 28).toNat) hO (by omega) (by omega)
  rw [rndB_G h.1 hS.1] at hB1 hB2 hB3
  have hlen : (rndB (S 0)).1.length = (S 0 28).toNat := plc_len (scoR_nn _ _) _ _
  unfold fRound
  split
  · rename_i hc
    refine KP_id hS ?_
    split
    · rw [← hB1]; exact gg_in _ _ _
    · split
      · rw [← hB2]; exact gg_in _ _ _
      · rw [← hB3 o.toNat (by rw [hlen]; omega)]; exact ga_in _ _ _
  · exact KP_badT hS
theorem fndN_b (p : Nat → Bool) : ∀ (k x : Nat), (match fndN p k x with
    | none => True
    | some y => y < x + k) := by
  intro k
  induction k with
  | zero => intro x; simp only [fndN]
  | succ k ih =>
    intro x
    simp only [fndN]
    by_cases hp : p x = true
    · simp only [hp, if_true]; omega
    · simp only [hp, Bool.false_eq_true, if_false]
      have := ih (x + 1)
      revert this
      cases fndN p k (x + 1) with
      | none => intro _; trivial
      | some y => intro h; dsimp only at h ⊢; omega
theorem w17 (hS : SOK S) {o m : Int} : KEEP (fKeep S o m) := by
  have g13 := hS.1.1
  unfold fKeep
  split
  · refine KP_id hS ?_
    have hb := fndN_b (kpG (S 0) o m) (S 0 13).toNat 0
    revert hb
    cases fndN (kpG (S 0) o m) (S 0 13).toNat 0 with
    | none => intro _; unfold InR; dsimp only; omega
    | some y => intro hb; unfold InR; dsimp only at hb ⊢; omega
  · exact KP_bad hS
theorem rTab_0 {g : Int → Int} {z b w : Int} {v : Int → Int} (h1 : 0 < b + w * g z) (h2 : 0 < z) : rTab g z b w v 0 = g 0 := by
  unfold rTab
  rw [if_neg (by omega), if_neg (by omega)]
theorem w18 (hS : SOK S) {o z k dd x : Int} : KEEP (fSeen S o z k dd x) := by
  have h9 := g0_9 hS
  have hn := hS.1.2.2.2.2.2.1.1
  unfold fSeen
  split
  · rename_i hc
    unfold hasO at hc
    split
    · exact KP_full hS
    · refine KP_row hS (GOK_seen hS.1 (by omega) (by omega) (by omega) (by omega) (by omega) (by omega)) ?_ (by unfold InR; omega)
      rw [rTab_0 (by omega) (by omega)]; exact h9
  · exact KP_bad hS
theorem w19 (hS : SOK S) : KEEP (fWhich S) := by
  have g13 := hS.1.1
  have hb := set_b (p := whichG (S 0)) (n := (S 0 13).toNat) (by omega)
  exact KP_id hS (by unfold InR setW; omega)
theorem foldU_P {β : Type} {P : β → Prop} {f : Nat → β → β} : ∀ (k x : Nat) (z : β), (∀ y z, x ≤ y → y < x + k → P z → P (f y z)) → P z → P (foldU f k x z) := by
  intro k
  induction k with
  | zero => intro x z _ h; exact h
  | succ k ih =>
    intro x z hf h
    simp only [foldU]
    exact ih (x + 1) _ (fun y z h1 h2 => hf y z (by omega) (by omega)) (hf x z (by omega) (by omega) h)
def BSP (B : Int × Int) : Prop := -1 ≤ B.1 ∧ B.1 ≤ 1000
theorem bstS_P {a v : Int} {B : Int × Int} (hB : BSP B) (hv : -1 ≤ v ∧ v ≤ 1000) : BSP (bstS a v B) := by
  unfold bstS
  split
  · exact hv
  · exact hB
theorem BSP0 : BSP ((-1, 99) : Int × Int) := by unfold BSP; dsimp only; omega
theorem w20 (hS : SOK S) {o : Int} : KEEP (fTell S o) := by
  unfold fTell
  split
  · refine KP_id hS ?_
    split
    · unfold InR; omega
    · have hb : BSP (foldU (tellB (S 0) o) 10 0 (-1, 99)) := foldU_P _ _ _ (fun dd B h1 h2 hB => foldU_P _ _ _ (fun k B k1 k2 hB => bstS_P hB (by omega)) hB) BSP0
      unfold BSP at hb
      unfold InR
      omega
  · exact KP_bad hS
theorem w21 (hS : SOK S) {l u k dd x : Int} : KEEP (fNote S l u k dd x) := by
  have h9 := g0_9 hS
  have hn := hS.1.2.2.2.2.2.2.1.1
  unfold fNote
  split
  · rename_i hc
    unfold hasL at hc
    split
    · exact KP_full hS
    · refine KP_row hS (GOK_note hS.1 (by omega) (by omega) (by omega) (by omega) (by omega) (by omega)) ?_ (by unfold InR; omega)
      rw [rTab_0 (by omega) (by omega)]; exact h9
  · exact KP_bad hS
theorem w22 (hS : SOK S) {o z x y : Int} : KEEP (fMark S o z x y) := by
  have h9 := g0_9 hS
  have hn := hS.1.2.2.2.2.2.2.2.1.1
  unfold fMark
  split
  · rename_i hc
    unfold hasO at hc
    split
    · exact KP_full hS
    · refine KP_row hS (GOK_mark hS.1 (by omega) (by omega) (by omega) (by omega) (by omega)) ?_ (by unfold InR; omega)
      rw [rTab_0 (by omega) (by omega)]; exact h9
  · exact KP_bad hS
theorem w23 (hS : SOK S) {w : Int} : KEEP (fForget S w) := by
  have h9 := g0_9 hS
  have h1 := hS.1.2.2.2.2.2.1.1
  have h2 := hS.1.2.2.2.2.2.2.1.1
  have h3 := hS.1.2.2.2.2.2.2.2.1.1
  have e : ∀ z : Int, 0 < z → r0 (S 0) z 0 ≤ 9999 := fun z q => by unfold r0; rw [if_neg (by omega)]; exact h9
  unfold fForget
  split
  · exact KP_row hS (GOK_r0 hS.1 (by omega)) (e _ (by omega)) (by unfold InR; omega)
  · split
    · exact KP_row hS (GOK_r0 hS.1 (by omega)) (e _ (by omega)) (by unfold InR; omega)
    · split
      · exact KP_row hS (GOK_r0 hS.1 (by omega)) (e _ (by omega)) (by unfold InR; omega)
      · exact KP_bad hS
theorem w24 (hS : SOK S) {l : Int} : KEEP (fIs S l) := by
  unfold fIs
  split
  · have hb := set_b (p := fun kd => allF (noteG (S 0) (kd : Int) l) 0 (S 0 60).toNat) (n := 6) (by omega)
    exact KP_id hS (by unfold InR setL; omega)
  · exact KP_bad hS
theorem w25 (hS : SOK S) {l : Int} : KEEP (fLook S l) := by
  unfold fLook
  split
  · refine KP_id hS ?_
    split
    · unfold InR; omega
    · have hb : BSP (foldU (lookB (S 0) l) 4 0 (-1, 99)) := foldU_P _ _ _ (fun dd B h1 h2 hB => foldU_P _ _ _ (fun k B k1 k2 hB => bstS_P hB (by omega)) hB) BSP0
      unfold BSP at hb
      unfold InR
      omega
  · exact KP_bad hS
theorem w26 (hS : SOK S) {o : Int} : KEEP (fKinds S o) := by
  unfold fKinds
  split
  · have hb := set_b (p := fun kd => allF (markG (S 0) (kd : Int) o) 0 (S 0 91).toNat) (n := 6) (by omega)
    exact KP_id hS (by unfold InR setO; omega)
  · exact KP_bad hS
theorem w27 (hS : SOK S) {o : Int} : KEEP (fAsk S o) := by
  unfold fAsk
  split
  · refine KP_id hS ?_
    split
    · unfold InR; omega
    · have hb : BSP (foldU (askB (S 0) o) 61 0 (-1, 99)) := foldU_P _ _ _ (fun x B h1 h2 hB => bstS_P hB (by omega)) BSP0
      unfold BSP at hb
      unfold InR
      omega
  · exact KP_bad hS
theorem arcJ_c {p : Nat → Nat → Bool} {k : Int} {i : Nat} (hi : i ≤ 9) : ∀ (m j : Nat) (r : Int), j + m ≤ 9 → (match arcJ p k i m j r with
    | .inl v => 0 ≤ v ∧ v ≤ 1000
    | .inr r' => r ≤ r' ∧ r' ≤ r + m) := by
  intro m
  induction m with
  | zero => intro j r _; simp only [arcJ]; omega
  | succ m ih =>
    intro j r hj
    simp only [arcJ]
    by_cases hp : p i j = true
    · simp only [hp, if_true]
      by_cases hr : r = k
      · rw [if_pos hr]; dsimp only; omega
      · rw [if_neg hr]
        have := ih (j + 1) (r + 1) (by omega)
        revert this
        cases arcJ p k i m (j + 1) (r + 1) with
        | inl v => intro h; exact h
        | inr v => intro h; dsimp only at h ⊢; omega
    · simp only [hp, Bool.false_eq_true, if_false]
      have := ih (j + 1) r (by omega)
      revert this
      cases arcJ p k i m (j + 1) r with
      | inl v => intro h; exact h
      | inr v => intro h; dsimp only at h ⊢; omega
theorem arcI_c {p : Nat → Nat → Bool} {k : Int} {n : Nat} (hn : n ≤ 7) : ∀ (m i : Nat) (r : Int), i + m ≤ 7 → (match arcI p k n m i r with
    | .inl v => 0 ≤ v ∧ v ≤ 1000
    | .inr r' => r ≤ r' ∧ r' ≤ r + 7 * m) := by
  intro m
  induction m with
  | zero => intro i r _; simp only [arcI]; omega
  | succ m ih =>
    intro i r hi
    simp only [arcI]
    have h1 := arcJ_c (p := p) (k := k) (i := i) (by omega) n 0 r (by omega)
    revert h1
    cases arcJ p k i n 0 r with
    | inl v => intro h; exact h
    | inr r1 =>
      intro h1
      dsimp only at h1 ⊢
      have := ih (i + 1) r1 (by omega)
      revert this
      cases arcI p k n m (i + 1) r1 with
      | inl v => intro h; exact h
      | inr v => intro h; dsimp only at h ⊢; omega
theorem w28 (hS : SOK S) {o k : Int} : KEEP (fArch S o k) := by
  have g13 := hS.1.1
  unfold fArch
  split
  · refine KP_id hS ?_
    have hb := arcI_c (p := fun i j => bstG (S 0) o i j && bstG (S 0) o j i) (k := k) (n := (S 0 13).toNat) (by omega) (S 0 13).toNat 0 0 (by omega)
    revert hb
    cases arcI (fun i j => bstG (S 0) o i j && bstG (S 0) o j i) k (S 0 13).toNat (S 0 13).toNat 0 0 with
    | inl v => intro h; unfold InR arcV; dsimp only at h ⊢; omega
    | inr v =>
      intro h
      unfold InR arcV
      dsimp only at h ⊢
      split <;> omega
  · exact KP_badT hS
theorem w29 (hS : SOK S) {o lies c : Int} : KEEP (fTrues S o lies c) := by
  unfold fTrues
  split
  · exact ⟨SOK_44 hS (fun a q => by funext x; unfold set4; dsimp only; rw [if_neg (by omega), if_neg (by omega)]) (fun j q => by unfold set4; dsimp only; rw [if_neg (by omega), if_neg (by omega)]), by unfold InR; dsimp only; omega⟩
  · exact KP_bad hS
theorem GOK_years : ∀ (n : Nat) (x : Int) (g : Int → Int), GOK g → g 0 + n ≤ 20000 → GOK (rYears n x g) := by
  intro n
  induction n with
  | zero => intro x g h _; exact h
  | succ n ih =>
    intro x g h h0
    simp only [rYears]
    have key : ∀ g' : Int → Int, GOK g' → g' 0 = g 0 → GOK (rDay g') ∧ rDay g' 0 + n ≤ 20000 := fun g' h1 h2 => ⟨GOK_day h1 (by omega), by rw [rDay_0]; omega⟩
    split
    · rename_i hc
      have k1 := key _ (GOK_say h hc.1 hc.2) (by unfold rSay; rw [if_neg (by omega), if_neg (by omega)])
      exact ih _ _ k1.1 k1.2
    · have k1 := key _ h rfl
      exact ih _ _ k1.1 k1.2
theorem w30 (hS : SOK S) {x n : Int} : KEEP (fYears S x n) := by
  have h9 := g0_9 hS
  unfold fYears
  split
  · rename_i hc
    have hb := hotG_b (GOK_years n.toNat x (S 0) hS.1 (by omega))
    exact KP_id hS (by unfold InR; omega)
  · exact KP_bad hS
theorem w31 (hS : SOK S) {w : Int} : SOK (fPart S w).2 := by
  unfold fPart
  split
  · exact hS
  · split
    · exact hS
    · exact (KP_bad hS).1
theorem w32 (hS : SOK S) {i : Int} : KEEP (fImage S i) := by
  obtain ⟨s1, s2, s3, ⟨s4, s5, s6⟩, s7, s8, s9, s10⟩ := hS
  have hS : SOK S := ⟨s1, s2, s3, ⟨s4, s5, s6⟩, s7, s8, s9, s10⟩
  unfold fImage
  split
  · refine ⟨?_, by unfold InR; dsimp only; omega⟩
    show SOK (imgS S i)
    have i4 : imgS S i 4 i = 1 := by unfold imgS; rw [if_pos ⟨rfl, rfl⟩]
    have i4n : ∀ x, ¬ x = i → imgS S i 4 x = S 4 x := fun x q => by unfold imgS; rw [if_neg (by omega), if_neg (by omega)]
    have in0 : imgS S i 0 = S 0 := by funext x; unfold imgS; rw [if_neg (by omega), if_neg (by omega)]
    have in3 : imgS S i 3 = S 3 := by funext x; unfold imgS; rw [if_neg (by omega), if_neg (by omega)]
    have hi : i = 0 ∨ i = 1 := by omega
    unfold SOK
    rcases hi with rfl | rfl
    · have in1 : imgS S 0 1 = S 0 := by funext x; unfold imgS; rw [if_neg (by omega), if_pos (by omega)]
      have in2 : imgS S 0 2 = S 2 := by funext x; unfold imgS; rw [if_neg (by omega), if_neg (by omega)]
      rw [in0, in1, in2, in3, i4, i4n 1 (by omega), i4n 2 (by omega)]
      exact ⟨s1, fun _ => s1, s3, ⟨s4, fun _ => s4, s6⟩, Or.inr rfl, s8, s9, s10⟩
    · have in1 : imgS S 1 1 = S 1 := by funext x; unfold imgS; rw [if_neg (by omega), if_neg (by omega)]
      have in2 : imgS S 1 2 = S 0 := by funext x; unfold imgS; rw [if_neg (by omega), if_pos (by omega)]
      rw [in0, in1, in2, in3, i4, i4n 0 (by omega), i4n 2 (by omega)]
      exact ⟨s1, s2, fun _ => s1, ⟨s4, s5, fun _ => s4⟩, s7, Or.inr rfl, s9, s10⟩
  · exact KP_bad hS
theorem w33 (hS : SOK S) {i : Int} : KEEP (fFrom S i) := by
  obtain ⟨s1, s2, s3, ⟨s4, s5, s6⟩, s7, s8, s9, s10⟩ := hS
  have hS : SOK S := ⟨s1, s2, s3, ⟨s4, s5, s6⟩, s7, s8, s9, s10⟩
  unfold fFrom
  split
  · rename_i hc
    split
    · exact KP_no hS
    · rename_i hk
      have hi : i = 0 ∨ i = 1 := by omega
      rcases hi with rfl | rfl
      · rw [if_pos rfl]
        have e : S 4 0 = 1 := s7.elim (fun q => absurd q hk) id
        exact KP_row hS (s2 e) (s5 e) (by unfold InR; omega)
      · rw [if_neg (by omega)]
        have e : S 4 1 = 1 := s8.elim (fun q => absurd q hk) id
        exact KP_row hS (s3 e) (s6 e) (by unfold InR; omega)
  · exact KP_bad hS
theorem w34 (h : CR σ S) (hS : SOK S) {w : Int} : KEEP (fStatus S w) := by
  obtain ⟨-, -, -, -, -, ⟨c1, c2, c3⟩, -⟩ := h
  unfold fStatus
  split
  · exact KP_id hS (by rw [← c1]; exact gg_in _ _ _)
  · split
    · exact KP_id hS (by rw [← c2]; exact gg_in _ _ _)
    · split
      · exact KP_id hS (by rw [← c3]; exact gg_in _ _ _)
      · exact ⟨SOK_bmp hS (by omega), by unfold InR; dsimp only; omega⟩
theorem w35 (hS : SOK S) {w : Int} : KEEP (fCount S w) := by
  unfold fCount
  split
  · exact KP_id hS (cntG_r hS w)
  · exact KP_bad hS
theorem w36 (hS : SOK S) : SOK (fDigest S).2 := hS
end KEEPS
