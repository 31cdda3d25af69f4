-- every run of the plain machine is a run of the machine; every method's contract
section SND
variable {p : Program} {l : Launch} {e : Env} {R : Room} {s : State} {m : MethodId} {args : Array Value} {below : List Frame} {meth : Method} {c : Code} {cells slots : Nat} {Z : State → Prop}
variable {ad sa sv : Nat → Nat} {D : va_G} {G : Nat → ClassId} {A : Nat → Prop} {y : Nat} {X : XS}
theorem wp_run {d : Nat} {CC : Nat → List AV → SG → AV → SG → Prop} (E : EnvY p s m c ad sa sv D G A y) (hX : ScrX sa A s X) (hRf : d + 13 ≤ R.frames) (hRl : 64 * (d + 13) ≤ R.locals) (hRc : cells ≤ R.cells ∧ slots ≤ R.slots)
    (IH : ∀ y' args' σ r σ', CC y' args' σ r σ' → Met l (mnm y') [mcw y'] (rmD d) (va_Pc (args'.map (tv ad sa)) (HB D G ad sa sv σ)) (QB D G ad sa r σ') 0 0 (AA ad))
    {Q : AV → SG → Prop}
    (hI : ∀ pc a σ' H' locs' LS', decode (mcd y) pc = .ok (.ireturn, 1) → retI y a → Q (.inl a) σ' → va_P D vwCl (wld G ad sa σ') H' → va_S A s.heap H' locs' → W p l e R s m args below meth c H' locs' cells slots Z (F0 m pc LS' [.int (Int32.ofInt a)]))
    (hJ : ∀ pc a σ' H' locs' LS', decode (mcd y) pc = .ok (.lreturn, 1) → mrt y = some .long → Q (.inr (.inl a)) σ' → va_P D vwCl (wld G ad sa σ') H' → va_S A s.heap H' locs' → W p l e R s m args below meth c H' locs' cells slots Z (F0 m pc LS' [.long (Int64.ofInt a)]))
    (hV : ∀ pc σ' H' locs' LS', decode (mcd y) pc = .ok (.return_, 1) → mrt y = none → Q aU σ' → va_P D vwCl (wld G ad sa σ') H' → va_S A s.heap H' locs' → W p l e R s m args below meth c H' locs' cells slots Z (F0 m pc LS' [])) :
    ∀ (n pc : Nat) (ls st : List AV) (σ : SG) (H : Heap) (locs : List Loc) (LS : Array Slot), wp X (calC CC) n y pc ls st σ Q → LV ad sa y LS ls → va_P D vwCl (wld G ad sa σ) H → va_S A s.heap H locs → W p l e R s m args below meth c H locs cells slots Z (F0 m pc LS (st.map (tv ad sa))) := by
  intro n
  induction n with
  | zero => intro pc ls st σ H locs LS h; exact h.elim
  | succ n ih =>
    intro pc ls st σ H locs LS h hL hP hS
    unfold wp at h
    split at h
    · rename_i i len hdec
      exact step_run E hX hRf hRl hRc IH (fun pc' ls' st' σ' H' locs' LS' h1 h2 h3 h4 => ih pc' ls' st' σ' H' locs' LS' h1 h2 h3 h4) hI hJ hV hdec h.1 h.2 hL hP hS
    · exact h.elim
end SND
theorem mnm_plain : ∀ y, y < 207 → plainFor (mnm y) = true := by decide +kernel
set_option maxRecDepth 100000 in
/-- what the plain machine says of a method is its contract -/
theorem cal_met {l : Launch} {ad sa sv : Nat → Nat} {D : va_G} {G : Nat → ClassId} (hinj : ∀ i j, i < nCl → j < nCl → ad i = ad j → i = j)
    (hBI : ∀ d y args σ r σ', biC y args σ r σ' → Met l (mnm y) [mcw y] (rmD d) (va_Pc (args.map (tv ad sa)) (HB D G ad sa sv σ)) (QB D G ad sa r σ') 0 0 (AA ad)) :
    ∀ d y args σ r σ', Cal d y args σ r σ' → Met l (mnm y) [mcw y] (rmD d) (va_Pc (args.map (tv ad sa)) (HB D G ad sa sv σ)) (QB D G ad sa r σ') 0 0 (AA ad) := by
  intro d
  induction d with
  | zero => intro y args σ r σ' h; exact h.elim
  | succ d ih =>
    intro y as σ r σ' h
    rcases h with h | ⟨hy, hlen, hls, hnl, n, h⟩
    · exact hBI _ _ _ _ _ _ h
    refine va_MetF (cc := mcd y) (maxL := mml y) (ret := mrt y) (mnm_plain y (by omega)) rfl ?_
    intro p e s m args below meth c s₁ B hml hv
    obtain ⟨rfl, hP, hK, hT, hSB⟩ := hv
    have hx := B.exec
    have hb := B.bytes
    have hr := B.returns
    have hown : s.vm.findClass (mnm y).cls = some m.cls := findClass_of_methodNamed B.named
    rw [mow_own y hy] at hown
    have hlocks := B.notSynchronized
    rw [lg_entry_eq]
    have E : EnvY p s m c ad sa sv D G (AA ad) y := ⟨hx, hb, hml, hown, hT, hK, hinj, fun k hk => ⟨k, hk, rfl⟩, hSB⟩
    refine wp_run (d := d) (X := none) E trivial (Nat.le_refl _) (Nat.le_refl _) ⟨Nat.le_refl _, Nat.le_refl _⟩ ih (Q := fun r1 σ1 => r1 = r ∧ σ1 = σ') ?_ ?_ ?_ n 0 (entL y as) [] σ s.heap [] _ h (LV.entry hls hnl) hP va_S.rf
    · intro pc a σ1 H' locs' LS' hdec hret hq hP' hS'
      obtain ⟨rfl, rfl⟩ := hq
      rcases hret with h1 | ⟨h1, h2⟩
      · exact W.iret hx hb (hr.trans h1) (fun t ht hW => ⟨⟨rfl, by rw [ht]; exact hP'⟩, hS'.F ht⟩) hS'.2.2 hdec hlocks
      · exact W.zret hx hb (hr.trans h1) (nar_b h2).1 (fun t ht hW => ⟨⟨rfl, by rw [ht]; exact hP'⟩, hS'.F ht⟩) hS'.2.2 hdec hlocks
    · intro pc a σ1 H' locs' LS' hdec hret hq hP' hS'
      obtain ⟨rfl, rfl⟩ := hq
      exact W.lret hx hb (hr.trans hret) (fun t ht hW => ⟨⟨rfl, by rw [ht]; exact hP'⟩, hS'.F ht⟩) hS'.2.2 hdec hlocks
    · intro pc σ1 H' locs' LS' hdec hret hq hP' hS'
      obtain ⟨rfl, rfl⟩ := hq
      exact W.vret hx hb (hr.trans hret) (fun t ht hW => ⟨⟨rfl, by rw [ht]; exact hP'⟩, hS'.F ht⟩) hS'.2.2 hdec hlocks
