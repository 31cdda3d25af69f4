-- the constructors, by program (wip/whole/gen76.py)
theorem va_D1 {A : Nat → Prop} {q : Nat × va_E} (h : A q.1) : va_D A [q] := ⟨fun i j x y hi hj _ => by have := (List.getElem?_eq_some_iff.mp hi).1; have := (List.getElem?_eq_some_iff.mp hj).1; simp only [List.length_singleton] at *; omega, fun k x hx => by
  have hz : k < 1 := (List.getElem?_eq_some_iff.mp hx).1
  rw [show k = 0 by omega] at hx
  cases hx
  exact h⟩
def SHini1 (G : Nat → ClassId) (h0 : Nat) (w : va_W) : Prop := ∃ q1 : Nat, w = [(h0, .inr (1, [.ref q1, .int 0])), (q1, .inl (G 0, 104, .inl fun _ => 0))]
set_option maxHeartbeats 1000000 in
set_option maxRecDepth 100000 in
theorem ini1 (l : Launch) (D : va_G) (G : Nat → ClassId) (h0 : Nat) (sz : Nat) : Met l yX1_init [.code yX1_init cX1_init 1 none] { frames := 2, cells := 1, slots := 104, locals := 40 } (va_Pc [.ref h0] (IP D G [(h0, .inr (1, [.null, .int 0]))] sz)) (va_Qv (SHini1 G h0) (fun w t => va_P D vwCl w t.heap ∧ va_D (va_A [(h0, .inr (1, [.null, .int 0]))] sz) w) (va_A [(h0, .inr (1, [.null, .int 0]))] sz)) 1 104 (va_A [(h0, .inr (1, [.null, .int 0]))] sz) := by
  refine Met.ofW (cc := cX1_init) (maxL := 1) (ret := none) (by decide) rfl ?_
  intro p e s m args below meth c s₁ B hml hv
  obtain ⟨rfl, hsz, hP, hI⟩ := hv
  have hK := hI.1
  have hT := hI.2.1
  have hx := B.exec
  have hb := B.bytes
  have hr := B.returns
  have hown : s.vm.findClass RX1 = some m.cls := findClass_of_methodNamed B.named
  have hlocks := B.notSynchronized
  have hin : meth.name = "<init>" := (name_of_methodNamed B.named B.method).1
  subst hsz
  have hA : ∀ q : Nat, s.heap.size ≤ q → va_A [(h0, .inr (1, [.null, .int 0]))] s.heap.size q := fun q h => Or.inr h
  have hD : va_D (va_A [(h0, .inr (1, [.null, .int 0]))] s.heap.size) [(h0, .inr (1, [.null, .int 0]))] := va_D1 (Or.inl ⟨0, _, rfl⟩)
  generalize va_A [(h0, .inr (1, [.null, .int 0]))] s.heap.size = A at hD hA ⊢
  have hS : va_S A s.heap s.heap [] := va_S.rf
  have hP : va_P D vwCl [(h0, .inr (1, [.null, .int 0]))] s.heap := hP
  have hl := lv_entry ([.ref h0]) (n := 1) (Nat.le_of_ble_eq_true rfl)
  rw [lg_entry_eq]
  generalize (lg_sl ([.ref h0]) ++ List.replicate (1 - (lg_sl ([.ref h0])).length) Slot.unset).toArray = ls at hl ⊢
  have hl : lv_has ls 1 [(0, .ref h0)] := hl
  refine lv_aload_n hx hb (by decide +kernel : decode cX1_init 0 = .ok (.aload_n 0, 1)) rfl (lv_at hl 0 rfl) ?_
  refine W.objInit hx hb hown (hT.tin (i := 147) (w := .methodLink RX1 3 objectInit) (by decide +kernel)) (hT.tin (i := 110) (w := .instanceMethod objectInit) (by decide +kernel)) (hT.tin (i := 111) (w := .code objectInit ⟨#[0xb1]⟩ 1 none) (by decide +kernel)) rfl (by rw [hml]; exact hl.1) rfl (by decide +kernel : decode cX1_init 1 = .ok (.invokespecial 3, 3)) (Nat.le_of_ble_eq_true rfl) (Nat.le_of_ble_eq_true rfl) ?_
  refine W.eq (g2 := F0 m 4 ls []) rfl ?_
  refine lv_aload_n hx hb (by decide +kernel : decode cX1_init 4 = .ok (.aload_n 0, 1)) rfl (lv_at hl 0 rfl) ?_
  refine lv_bipush (v := 104) hx hb (by decide +kernel : decode cX1_init 5 = .ok (.bipush 104, 2)) (by decide) ?_
  refine ini_arr (N' := 104) 0 hx hb (atype := .int) (ty := .int) rfl (hI.2.2.1 _).1 rfl (fun _ h => h) hK hP hD hS hA rfl (by decide) (by decide) (Nat.le_of_ble_eq_true rfl) (Nat.le_of_ble_eq_true rfl) (Nat.le_of_ble_eq_true rfl) (by decide +kernel : decode cX1_init 7 = .ok (.newarray .int, 2)) (fun q1 H hP hD hS => ?_)
  have hP : va_P D vwCl [(h0, .inr (1, [.null, .int 0])), (q1, .inl (G 0, 104, .inl fun _ => 0))] H := hP
  have hD : va_D A [(h0, .inr (1, [.null, .int 0])), (q1, .inl (G 0, 104, .inl fun _ => 0))] := hD
  refine W.widen (k := 1) (n := 104) (Nat.le_of_ble_eq_true rfl) (Nat.le_of_ble_eq_true rfl) ?_
  refine va_putF (D := D) (ci := 1) (v := .ref q1) (ty := (.array .int)) (C := RX1) (T := TX1) (N := 2) hx hb hT.oks (u_ok 1 (by decide)) tyX1 tyX1_ok nmX1 hown hK hP hD hS 0 rfl rfl 0 (by decide) (hT.tin (i := 148) (w := .fieldLink RX1 11 RX1 "cells" "[I") (by decide +kernel)) (fun _ h => h) rfl hin rfl (by decide +kernel) rfl rfl (Nat.le_of_ble_eq_true rfl) (by decide +kernel : decode cX1_init 9 = .ok (.putfield 11, 3)) (fun H locs hP hD hS => ?_)
  have hP : va_P D vwCl [(h0, .inr (1, [.ref q1, .int 0])), (q1, .inl (G 0, 104, .inl fun _ => 0))] H := hP
  have hD : va_D A [(h0, .inr (1, [.ref q1, .int 0])), (q1, .inl (G 0, 104, .inl fun _ => 0))] := hD
  exact W.vret hx hb hr (fun t ht hW => ⟨⟨[(h0, .inr (1, [.ref q1, .int 0])), (q1, .inl (G 0, 104, .inl fun _ => 0))], rfl, ⟨q1, rfl⟩, by rw [ht]; exact hP, hD⟩, hS.F ht⟩) hS.2.2 (by decide +kernel : decode cX1_init 12 = .ok (.return_, 1))

def SHini2 (G : Nat → ClassId) (h0 : Nat) (w : va_W) : Prop := ∃ q1 : Nat, w = [(h0, .inr (2, [.ref q1, .int 0, .int 0, .int 0, .int 0, .int 0])), (q1, .inl (G 2, 150, .inl fun _ => 0))]
set_option maxHeartbeats 1000000 in
set_option maxRecDepth 100000 in
theorem ini2 (l : Launch) (D : va_G) (G : Nat → ClassId) (h0 : Nat) (sz : Nat) : Met l yX2_init [.code yX2_init cX2_init 1 none] { frames := 2, cells := 1, slots := 150, locals := 40 } (va_Pc [.ref h0] (IP D G [(h0, .inr (2, [.null, .int 0, .int 0, .int 0, .int 0, .int 0]))] sz)) (va_Qv (SHini2 G h0) (fun w t => va_P D vwCl w t.heap ∧ va_D (va_A [(h0, .inr (2, [.null, .int 0, .int 0, .int 0, .int 0, .int 0]))] sz) w) (va_A [(h0, .inr (2, [.null, .int 0, .int 0, .int 0, .int 0, .int 0]))] sz)) 1 150 (va_A [(h0, .inr (2, [.null, .int 0, .int 0, .int 0, .int 0, .int 0]))] sz) := by
  refine Met.ofW (cc := cX2_init) (maxL := 1) (ret := none) (by decide) rfl ?_
  intro p e s m args below meth c s₁ B hml hv
  obtain ⟨rfl, hsz, hP, hI⟩ := hv
  have hK := hI.1
  have hT := hI.2.1
  have hx := B.exec
  have hb := B.bytes
  have hr := B.returns
  have hown : s.vm.findClass RX2 = some m.cls := findClass_of_methodNamed B.named
  have hlocks := B.notSynchronized
  have hin : meth.name = "<init>" := (name_of_methodNamed B.named B.method).1
  subst hsz
  have hA : ∀ q : Nat, s.heap.size ≤ q → va_A [(h0, .inr (2, [.null, .int 0, .int 0, .int 0, .int 0, .int 0]))] s.heap.size q := fun q h => Or.inr h
  have hD : va_D (va_A [(h0, .inr (2, [.null, .int 0, .int 0, .int 0, .int 0, .int 0]))] s.heap.size) [(h0, .inr (2, [.null, .int 0, .int 0, .int 0, .int 0, .int 0]))] := va_D1 (Or.inl ⟨0, _, rfl⟩)
  generalize va_A [(h0, .inr (2, [.null, .int 0, .int 0, .int 0, .int 0, .int 0]))] s.heap.size = A at hD hA ⊢
  have hS : va_S A s.heap s.heap [] := va_S.rf
  have hP : va_P D vwCl [(h0, .inr (2, [.null, .int 0, .int 0, .int 0, .int 0, .int 0]))] s.heap := hP
  have hl := lv_entry ([.ref h0]) (n := 1) (Nat.le_of_ble_eq_true rfl)
  rw [lg_entry_eq]
  generalize (lg_sl ([.ref h0]) ++ List.replicate (1 - (lg_sl ([.ref h0])).length) Slot.unset).toArray = ls at hl ⊢
  have hl : lv_has ls 1 [(0, .ref h0)] := hl
  refine lv_aload_n hx hb (by decide +kernel : decode cX2_init 0 = .ok (.aload_n 0, 1)) rfl (lv_at hl 0 rfl) ?_
  refine W.objInit hx hb hown (hT.tin (i := 226) (w := .methodLink RX2 3 objectInit) (by decide +kernel)) (hT.tin (i := 110) (w := .instanceMethod objectInit) (by decide +kernel)) (hT.tin (i := 111) (w := .code objectInit ⟨#[0xb1]⟩ 1 none) (by decide +kernel)) rfl (by rw [hml]; exact hl.1) rfl (by decide +kernel : decode cX2_init 1 = .ok (.invokespecial 3, 3)) (Nat.le_of_ble_eq_true rfl) (Nat.le_of_ble_eq_true rfl) ?_
  refine W.eq (g2 := F0 m 4 ls []) rfl ?_
  refine lv_aload_n hx hb (by decide +kernel : decode cX2_init 4 = .ok (.aload_n 0, 1)) rfl (lv_at hl 0 rfl) ?_
  refine lv_sipush (v := 150) hx hb (by decide +kernel : decode cX2_init 5 = .ok (.sipush 150, 3)) (by decide) ?_
  refine ini_arr (N' := 150) 2 hx hb (atype := .char) (ty := .char) rfl (hI.2.2.1 _).2.2 rfl (fun _ h => h) hK hP hD hS hA rfl (by decide) (by decide) (Nat.le_of_ble_eq_true rfl) (Nat.le_of_ble_eq_true rfl) (Nat.le_of_ble_eq_true rfl) (by decide +kernel : decode cX2_init 8 = .ok (.newarray .char, 2)) (fun q1 H hP hD hS => ?_)
  have hP : va_P D vwCl [(h0, .inr (2, [.null, .int 0, .int 0, .int 0, .int 0, .int 0])), (q1, .inl (G 2, 150, .inl fun _ => 0))] H := hP
  have hD : va_D A [(h0, .inr (2, [.null, .int 0, .int 0, .int 0, .int 0, .int 0])), (q1, .inl (G 2, 150, .inl fun _ => 0))] := hD
  refine W.widen (k := 1) (n := 150) (Nat.le_of_ble_eq_true rfl) (Nat.le_of_ble_eq_true rfl) ?_
  refine va_putF (D := D) (ci := 2) (v := .ref q1) (ty := (.array .char)) (C := RX2) (T := TX2) (N := 6) hx hb hT.oks (u_ok 2 (by decide)) tyX2 tyX2_ok nmX2 hown hK hP hD hS 0 rfl rfl 0 (by decide) (hT.tin (i := 227) (w := .fieldLink RX2 9 RX2 "bytes" "[C") (by decide +kernel)) (fun _ h => h) rfl hin rfl (by decide +kernel) rfl rfl (Nat.le_of_ble_eq_true rfl) (by decide +kernel : decode cX2_init 10 = .ok (.putfield 9, 3)) (fun H locs hP hD hS => ?_)
  have hP : va_P D vwCl [(h0, .inr (2, [.ref q1, .int 0, .int 0, .int 0, .int 0, .int 0])), (q1, .inl (G 2, 150, .inl fun _ => 0))] H := hP
  have hD : va_D A [(h0, .inr (2, [.ref q1, .int 0, .int 0, .int 0, .int 0, .int 0])), (q1, .inl (G 2, 150, .inl fun _ => 0))] := hD
  exact W.vret hx hb hr (fun t ht hW => ⟨⟨[(h0, .inr (2, [.ref q1, .int 0, .int 0, .int 0, .int 0, .int 0])), (q1, .inl (G 2, 150, .inl fun _ => 0))], rfl, ⟨q1, rfl⟩, by rw [ht]; exact hP, hD⟩, hS.F ht⟩) hS.2.2 (by decide +kernel : decode cX2_init 13 = .ok (.return_, 1))

def SHini4a (G : Nat → ClassId) (h0 : Nat) (w : va_W) : Prop := ∃ q1 : Nat, w = [(h0, .inr (4, [.int 5, .int 5, .ref q1, .int 0])), (q1, .inl (G 0, 25, .inl fun _ => 0))]
set_option maxHeartbeats 1000000 in
set_option maxRecDepth 100000 in
theorem ini4a (l : Launch) (D : va_G) (G : Nat → ClassId) (h0 : Nat) (sz : Nat) : Met l yX4_init [.code yX4_init cX4_init 3 none] { frames := 2, cells := 1, slots := 25, locals := 60 } (va_Pc [.ref h0, .int 5, .int 5] (IP D G [(h0, .inr (4, [.int 0, .int 0, .null, .int 0]))] sz)) (va_Qv (SHini4a G h0) (fun w t => va_P D vwCl w t.heap ∧ va_D (va_A [(h0, .inr (4, [.int 0, .int 0, .null, .int 0]))] sz) w) (va_A [(h0, .inr (4, [.int 0, .int 0, .null, .int 0]))] sz)) 1 25 (va_A [(h0, .inr (4, [.int 0, .int 0, .null, .int 0]))] sz) := by
  refine Met.ofW (cc := cX4_init) (maxL := 3) (ret := none) (by decide) rfl ?_
  intro p e s m args below meth c s₁ B hml hv
  obtain ⟨rfl, hsz, hP, hI⟩ := hv
  have hK := hI.1
  have hT := hI.2.1
  have hx := B.exec
  have hb := B.bytes
  have hr := B.returns
  have hown : s.vm.findClass RX4 = some m.cls := findClass_of_methodNamed B.named
  have hlocks := B.notSynchronized
  have hin : meth.name = "<init>" := (name_of_methodNamed B.named B.method).1
  subst hsz
  have hA : ∀ q : Nat, s.heap.size ≤ q → va_A [(h0, .inr (4, [.int 0, .int 0, .null, .int 0]))] s.heap.size q := fun q h => Or.inr h
  have hD : va_D (va_A [(h0, .inr (4, [.int 0, .int 0, .null, .int 0]))] s.heap.size) [(h0, .inr (4, [.int 0, .int 0, .null, .int 0]))] := va_D1 (Or.inl ⟨0, _, rfl⟩)
  generalize va_A [(h0, .inr (4, [.int 0, .int 0, .null, .int 0]))] s.heap.size = A at hD hA ⊢
  have hS : va_S A s.heap s.heap [] := va_S.rf
  have hP : va_P D vwCl [(h0, .inr (4, [.int 0, .int 0, .null, .int 0]))] s.heap := hP
  have hl := lv_entry ([.ref h0, .int 5, .int 5]) (n := 3) (Nat.le_of_ble_eq_true rfl)
  rw [lg_entry_eq]
  generalize (lg_sl ([.ref h0, .int 5, .int 5]) ++ List.replicate (3 - (lg_sl ([.ref h0, .int 5, .int 5])).length) Slot.unset).toArray = ls at hl ⊢
  have hl : lv_has ls 3 [(0, .ref h0), (1, .int 5), (2, .int 5)] := hl
  refine lv_aload_n hx hb (by decide +kernel : decode cX4_init 0 = .ok (.aload_n 0, 1)) rfl (lv_at hl 0 rfl) ?_
  refine W.objInit hx hb hown (hT.tin (i := 123) (w := .methodLink RX4 1 objectInit) (by decide +kernel)) (hT.tin (i := 110) (w := .instanceMethod objectInit) (by decide +kernel)) (hT.tin (i := 111) (w := .code objectInit ⟨#[0xb1]⟩ 1 none) (by decide +kernel)) rfl (by rw [hml]; exact hl.1) rfl (by decide +kernel : decode cX4_init 1 = .ok (.invokespecial 1, 3)) (Nat.le_of_ble_eq_true rfl) (Nat.le_of_ble_eq_true rfl) ?_
  refine W.eq (g2 := F0 m 4 ls []) rfl ?_
  refine lv_aload_n hx hb (by decide +kernel : decode cX4_init 4 = .ok (.aload_n 0, 1)) rfl (lv_at hl 0 rfl) ?_
  refine lv_iconst (v := 0) hx hb (by decide +kernel : decode cX4_init 5 = .ok (.iconst 0, 1)) (by decide) ?_
  refine lv_iload_n hx hb (by decide +kernel : decode cX4_init 6 = .ok (.iload_n 1, 1)) rfl (lv_at hl 1 rfl) ?_
  refine va_mmax hx hb (by rw [hml]; exact hl.1.symm) hown (hT.tin (i := 124) (w := .methodLink RX4 7 Lib.Math.max.name) (by decide +kernel)) (hT.tin (i := 125) (w := .static Lib.Math.max.name) (by decide +kernel)) (hT.tin (i := 94) (w := .initialized "java/lang/Math") (by decide +kernel)) (hT.tin (i := 126) (w := .code Lib.Math.max.name Lib.Math.max.code 2 (some .int)) (by decide +kernel)) (Nat.le_of_ble_eq_true rfl) (Nat.le_of_ble_eq_true rfl) (Nat.le_of_ble_eq_true rfl) (Nat.le_of_ble_eq_true rfl) (by decide +kernel : decode cX4_init 7 = .ok (.invokestatic 7, 3)) ?_
  rw [show (if (0 : Int32) < 5 then (5 : Int32) else 0) = 5 from by decide]
  refine va_putF (D := D) (ci := 4) (v := .int 5) (ty := .int) (C := RX4) (T := TX4) (N := 4) hx hb hT.oks (u_ok 4 (by decide)) tyX4 tyX4_ok nmX4 hown hK hP hD hS 0 rfl rfl 0 (by decide) (hT.tin (i := 127) (w := .fieldLink RX4 13 RX4 "most" "I") (by decide +kernel)) (fun _ h => h) rfl hin rfl (by decide +kernel) rfl rfl (Nat.le_of_ble_eq_true rfl) (by decide +kernel : decode cX4_init 10 = .ok (.putfield 13, 3)) (fun H locs hP hD hS => ?_)
  have hP : va_P D vwCl [(h0, .inr (4, [.int 5, .int 0, .null, .int 0]))] H := hP
  have hD : va_D A [(h0, .inr (4, [.int 5, .int 0, .null, .int 0]))] := hD
  refine lv_aload_n hx hb (by decide +kernel : decode cX4_init 13 = .ok (.aload_n 0, 1)) rfl (lv_at hl 0 rfl) ?_
  refine lv_iconst (v := 0) hx hb (by decide +kernel : decode cX4_init 14 = .ok (.iconst 0, 1)) (by decide) ?_
  refine lv_iload_n hx hb (by decide +kernel : decode cX4_init 15 = .ok (.iload_n 2, 1)) rfl (lv_at hl 2 rfl) ?_
  refine va_mmax hx hb (by rw [hml]; exact hl.1.symm) hown (hT.tin (i := 124) (w := .methodLink RX4 7 Lib.Math.max.name) (by decide +kernel)) (hT.tin (i := 125) (w := .static Lib.Math.max.name) (by decide +kernel)) (hT.tin (i := 94) (w := .initialized "java/lang/Math") (by decide +kernel)) (hT.tin (i := 126) (w := .code Lib.Math.max.name Lib.Math.max.code 2 (some .int)) (by decide +kernel)) (Nat.le_of_ble_eq_true rfl) (Nat.le_of_ble_eq_true rfl) (Nat.le_of_ble_eq_true rfl) (Nat.le_of_ble_eq_true rfl) (by decide +kernel : decode cX4_init 16 = .ok (.invokestatic 7, 3)) ?_
  rw [show (if (0 : Int32) < 5 then (5 : Int32) else 0) = 5 from by decide]
  refine va_putF (D := D) (ci := 4) (v := .int 5) (ty := .int) (C := RX4) (T := TX4) (N := 4) hx hb hT.oks (u_ok 4 (by decide)) tyX4 tyX4_ok nmX4 hown hK hP hD hS 0 rfl rfl 1 (by decide) (hT.tin (i := 128) (w := .fieldLink RX4 19 RX4 "width" "I") (by decide +kernel)) (fun _ h => h) rfl hin rfl (by decide +kernel) rfl rfl (Nat.le_of_ble_eq_true rfl) (by decide +kernel : decode cX4_init 19 = .ok (.putfield 19, 3)) (fun H locs hP hD hS => ?_)
  have hP : va_P D vwCl [(h0, .inr (4, [.int 5, .int 5, .null, .int 0]))] H := hP
  have hD : va_D A [(h0, .inr (4, [.int 5, .int 5, .null, .int 0]))] := hD
  refine lv_aload_n hx hb (by decide +kernel : decode cX4_init 22 = .ok (.aload_n 0, 1)) rfl (lv_at hl 0 rfl) ?_
  refine lv_aload_n hx hb (by decide +kernel : decode cX4_init 23 = .ok (.aload_n 0, 1)) rfl (lv_at hl 0 rfl) ?_
  refine va_get (D := D) (ci := 4) (v := .int 5) (C := RX4) (T := TX4) (N := 4) hx hb hT.oks (u_ok 4 (by decide)) hown hK hP 0 rfl rfl 0 (by decide) (hT.tin (i := 127) (w := .fieldLink RX4 13 RX4 "most" "I") (by decide +kernel)) (fun _ h => h) rfl (by decide +kernel : decode cX4_init 24 = .ok (.getfield 13, 3)) ?_
  refine lv_aload_n hx hb (by decide +kernel : decode cX4_init 27 = .ok (.aload_n 0, 1)) rfl (lv_at hl 0 rfl) ?_
  refine va_get (D := D) (ci := 4) (v := .int 5) (C := RX4) (T := TX4) (N := 4) hx hb hT.oks (u_ok 4 (by decide)) hown hK hP 0 rfl rfl 1 (by decide) (hT.tin (i := 128) (w := .fieldLink RX4 19 RX4 "width" "I") (by decide +kernel)) (fun _ h => h) rfl (by decide +kernel : decode cX4_init 28 = .ok (.getfield 19, 3)) ?_
  refine lv_imul hx hb (by decide +kernel : decode cX4_init 31 = .ok (.imul, 1)) ?_
  rw [show (5 : Int32) * 5 = 25 from by decide]
  refine ini_arr (N' := 25) 0 hx hb (atype := .int) (ty := .int) rfl (hI.2.2.1 _).1 rfl (fun _ h => h) hK hP hD hS hA rfl (by decide) (by decide) (Nat.le_of_ble_eq_true rfl) (Nat.le_of_ble_eq_true rfl) (Nat.le_of_ble_eq_true rfl) (by decide +kernel : decode cX4_init 32 = .ok (.newarray .int, 2)) (fun q1 H hP hD hS => ?_)
  have hP : va_P D vwCl [(h0, .inr (4, [.int 5, .int 5, .null, .int 0])), (q1, .inl (G 0, 25, .inl fun _ => 0))] H := hP
  have hD : va_D A [(h0, .inr (4, [.int 5, .int 5, .null, .int 0])), (q1, .inl (G 0, 25, .inl fun _ => 0))] := hD
  refine W.widen (k := 1) (n := 25) (Nat.le_of_ble_eq_true rfl) (Nat.le_of_ble_eq_true rfl) ?_
  refine va_putF (D := D) (ci := 4) (v := .ref q1) (ty := (.array .int)) (C := RX4) (T := TX4) (N := 4) hx hb hT.oks (u_ok 4 (by decide)) tyX4 tyX4_ok nmX4 hown hK hP hD hS 0 rfl rfl 2 (by decide) (hT.tin (i := 129) (w := .fieldLink RX4 22 RX4 "cells" "[I") (by decide +kernel)) (fun _ h => h) rfl hin rfl (by decide +kernel) rfl rfl (Nat.le_of_ble_eq_true rfl) (by decide +kernel : decode cX4_init 34 = .ok (.putfield 22, 3)) (fun H locs hP hD hS => ?_)
  have hP : va_P D vwCl [(h0, .inr (4, [.int 5, .int 5, .ref q1, .int 0])), (q1, .inl (G 0, 25, .inl fun _ => 0))] H := hP
  have hD : va_D A [(h0, .inr (4, [.int 5, .int 5, .ref q1, .int 0])), (q1, .inl (G 0, 25, .inl fun _ => 0))] := hD
  exact W.vret hx hb hr (fun t ht hW => ⟨⟨[(h0, .inr (4, [.int 5, .int 5, .ref q1, .int 0])), (q1, .inl (G 0, 25, .inl fun _ => 0))], rfl, ⟨q1, rfl⟩, by rw [ht]; exact hP, hD⟩, hS.F ht⟩) hS.2.2 (by decide +kernel : decode cX4_init 37 = .ok (.return_, 1))

def SHini4b (G : Nat → ClassId) (h0 : Nat) (w : va_W) : Prop := ∃ q1 : Nat, w = [(h0, .inr (4, [.int 6, .int 5, .ref q1, .int 0])), (q1, .inl (G 0, 30, .inl fun _ => 0))]
set_option maxHeartbeats 1000000 in
set_option maxRecDepth 100000 in
theorem ini4b (l : Launch) (D : va_G) (G : Nat → ClassId) (h0 : Nat) (sz : Nat) : Met l yX4_init [.code yX4_init cX4_init 3 none] { frames := 2, cells := 1, slots := 30, locals := 60 } (va_Pc [.ref h0, .int 6, .int 5] (IP D G [(h0, .inr (4, [.int 0, .int 0, .null, .int 0]))] sz)) (va_Qv (SHini4b G h0) (fun w t => va_P D vwCl w t.heap ∧ va_D (va_A [(h0, .inr (4, [.int 0, .int 0, .null, .int 0]))] sz) w) (va_A [(h0, .inr (4, [.int 0, .int 0, .null, .int 0]))] sz)) 1 30 (va_A [(h0, .inr (4, [.int 0, .int 0, .null, .int 0]))] sz) := by
  refine Met.ofW (cc := cX4_init) (maxL := 3) (ret := none) (by decide) rfl ?_
  intro p e s m args below meth c s₁ B hml hv
  obtain ⟨rfl, hsz, hP, hI⟩ := hv
  have hK := hI.1
  have hT := hI.2.1
  have hx := B.exec
  have hb := B.bytes
  have hr := B.returns
  have hown : s.vm.findClass RX4 = some m.cls := findClass_of_methodNamed B.named
  have hlocks := B.notSynchronized
  have hin : meth.name = "<init>" := (name_of_methodNamed B.named B.method).1
  subst hsz
  have hA : ∀ q : Nat, s.heap.size ≤ q → va_A [(h0, .inr (4, [.int 0, .int 0, .null, .int 0]))] s.heap.size q := fun q h => Or.inr h
  have hD : va_D (va_A [(h0, .inr (4, [.int 0, .int 0, .null, .int 0]))] s.heap.size) [(h0, .inr (4, [.int 0, .int 0, .null, .int 0]))] := va_D1 (Or.inl ⟨0, _, rfl⟩)
  generalize va_A [(h0, .inr (4, [.int 0, .int 0, .null, .int 0]))] s.heap.size = A at hD hA ⊢
  have hS : va_S A s.heap s.heap [] := va_S.rf
  have hP : va_P D vwCl [(h0, .inr (4, [.int 0, .int 0, .null, .int 0]))] s.heap := hP
  have hl := lv_entry ([.ref h0, .int 6, .int 5]) (n := 3) (Nat.le_of_ble_eq_true rfl)
  rw [lg_entry_eq]
  generalize (lg_sl ([.ref h0, .int 6, .int 5]) ++ List.replicate (3 - (lg_sl ([.ref h0, .int 6, .int 5])).length) Slot.unset).toArray = ls at hl ⊢
  have hl : lv_has ls 3 [(0, .ref h0), (1, .int 6), (2, .int 5)] := hl
  refine lv_aload_n hx hb (by decide +kernel : decode cX4_init 0 = .ok (.aload_n 0, 1)) rfl (lv_at hl 0 rfl) ?_
  refine W.objInit hx hb hown (hT.tin (i := 123) (w := .methodLink RX4 1 objectInit) (by decide +kernel)) (hT.tin (i := 110) (w := .instanceMethod objectInit) (by decide +kernel)) (hT.tin (i := 111) (w := .code objectInit ⟨#[0xb1]⟩ 1 none) (by decide +kernel)) rfl (by rw [hml]; exact hl.1) rfl (by decide +kernel : decode cX4_init 1 = .ok (.invokespecial 1, 3)) (Nat.le_of_ble_eq_true rfl) (Nat.le_of_ble_eq_true rfl) ?_
  refine W.eq (g2 := F0 m 4 ls []) rfl ?_
  refine lv_aload_n hx hb (by decide +kernel : decode cX4_init 4 = .ok (.aload_n 0, 1)) rfl (lv_at hl 0 rfl) ?_
  refine lv_iconst (v := 0) hx hb (by decide +kernel : decode cX4_init 5 = .ok (.iconst 0, 1)) (by decide) ?_
  refine lv_iload_n hx hb (by decide +kernel : decode cX4_init 6 = .ok (.iload_n 1, 1)) rfl (lv_at hl 1 rfl) ?_
  refine va_mmax hx hb (by rw [hml]; exact hl.1.symm) hown (hT.tin (i := 124) (w := .methodLink RX4 7 Lib.Math.max.name) (by decide +kernel)) (hT.tin (i := 125) (w := .static Lib.Math.max.name) (by decide +kernel)) (hT.tin (i := 94) (w := .initialized "java/lang/Math") (by decide +kernel)) (hT.tin (i := 126) (w := .code Lib.Math.max.name Lib.Math.max.code 2 (some .int)) (by decide +kernel)) (Nat.le_of_ble_eq_true rfl) (Nat.le_of_ble_eq_true rfl) (Nat.le_of_ble_eq_true rfl) (Nat.le_of_ble_eq_true rfl) (by decide +kernel : decode cX4_init 7 = .ok (.invokestatic 7, 3)) ?_
  rw [show (if (0 : Int32) < 6 then (6 : Int32) else 0) = 6 from by decide]
  refine va_putF (D := D) (ci := 4) (v := .int 6) (ty := .int) (C := RX4) (T := TX4) (N := 4) hx hb hT.oks (u_ok 4 (by decide)) tyX4 tyX4_ok nmX4 hown hK hP hD hS 0 rfl rfl 0 (by decide) (hT.tin (i := 127) (w := .fieldLink RX4 13 RX4 "most" "I") (by decide +kernel)) (fun _ h => h) rfl hin rfl (by decide +kernel) rfl rfl (Nat.le_of_ble_eq_true rfl) (by decide +kernel : decode cX4_init 10 = .ok (.putfield 13, 3)) (fun H locs hP hD hS => ?_)
  have hP : va_P D vwCl [(h0, .inr (4, [.int 6, .int 0, .null, .int 0]))] H := hP
  have hD : va_D A [(h0, .inr (4, [.int 6, .int 0, .null, .int 0]))] := hD
  refine lv_aload_n hx hb (by decide +kernel : decode cX4_init 13 = .ok (.aload_n 0, 1)) rfl (lv_at hl 0 rfl) ?_
  refine lv_iconst (v := 0) hx hb (by decide +kernel : decode cX4_init 14 = .ok (.iconst 0, 1)) (by decide) ?_
  refine lv_iload_n hx hb (by decide +kernel : decode cX4_init 15 = .ok (.iload_n 2, 1)) rfl (lv_at hl 2 rfl) ?_
  refine va_mmax hx hb (by rw [hml]; exact hl.1.symm) hown (hT.tin (i := 124) (w := .methodLink RX4 7 Lib.Math.max.name) (by decide +kernel)) (hT.tin (i := 125) (w := .static Lib.Math.max.name) (by decide +kernel)) (hT.tin (i := 94) (w := .initialized "java/lang/Math") (by decide +kernel)) (hT.tin (i := 126) (w := .code Lib.Math.max.name Lib.Math.max.code 2 (some .int)) (by decide +kernel)) (Nat.le_of_ble_eq_true rfl) (Nat.le_of_ble_eq_true rfl) (Nat.le_of_ble_eq_true rfl) (Nat.le_of_ble_eq_true rfl) (by decide +kernel : decode cX4_init 16 = .ok (.invokestatic 7, 3)) ?_
  rw [show (if (0 : Int32) < 5 then (5 : Int32) else 0) = 5 from by decide]
  refine va_putF (D := D) (ci := 4) (v := .int 5) (ty := .int) (C := RX4) (T := TX4) (N := 4) hx hb hT.oks (u_ok 4 (by decide)) tyX4 tyX4_ok nmX4 hown hK hP hD hS 0 rfl rfl 1 (by decide) (hT.tin (i := 128) (w := .fieldLink RX4 19 RX4 "width" "I") (by decide +kernel)) (fun _ h => h) rfl hin rfl (by decide +kernel) rfl rfl (Nat.le_of_ble_eq_true rfl) (by decide +kernel : decode cX4_init 19 = .ok (.putfield 19, 3)) (fun H locs hP hD hS => ?_)
  have hP : va_P D vwCl [(h0, .inr (4, [.int 6, .int 5, .null, .int 0]))] H := hP
  have hD : va_D A [(h0, .inr (4, [.int 6, .int 5, .null, .int 0]))] := hD
  refine lv_aload_n hx hb (by decide +kernel : decode cX4_init 22 = .ok (.aload_n 0, 1)) rfl (lv_at hl 0 rfl) ?_
  refine lv_aload_n hx hb (by decide +kernel : decode cX4_init 23 = .ok (.aload_n 0, 1)) rfl (lv_at hl 0 rfl) ?_
  refine va_get (D := D) (ci := 4) (v := .int 6) (C := RX4) (T := TX4) (N := 4) hx hb hT.oks (u_ok 4 (by decide)) hown hK hP 0 rfl rfl 0 (by decide) (hT.tin (i := 127) (w := .fieldLink RX4 13 RX4 "most" "I") (by decide +kernel)) (fun _ h => h) rfl (by decide +kernel : decode cX4_init 24 = .ok (.getfield 13, 3)) ?_
  refine lv_aload_n hx hb (by decide +kernel : decode cX4_init 27 = .ok (.aload_n 0, 1)) rfl (lv_at hl 0 rfl) ?_
  refine va_get (D := D) (ci := 4) (v := .int 5) (C := RX4) (T := TX4) (N := 4) hx hb hT.oks (u_ok 4 (by decide)) hown hK hP 0 rfl rfl 1 (by decide) (hT.tin (i := 128) (w := .fieldLink RX4 19 RX4 "width" "I") (by decide +kernel)) (fun _ h => h) rfl (by decide +kernel : decode cX4_init 28 = .ok (.getfield 19, 3)) ?_
  refine lv_imul hx hb (by decide +kernel : decode cX4_init 31 = .ok (.imul, 1)) ?_
  rw [show (6 : Int32) * 5 = 30 from by decide]
  refine ini_arr (N' := 30) 0 hx hb (atype := .int) (ty := .int) rfl (hI.2.2.1 _).1 rfl (fun _ h => h) hK hP hD hS hA rfl (by decide) (by decide) (Nat.le_of_ble_eq_true rfl) (Nat.le_of_ble_eq_true rfl) (Nat.le_of_ble_eq_true rfl) (by decide +kernel : decode cX4_init 32 = .ok (.newarray .int, 2)) (fun q1 H hP hD hS => ?_)
  have hP : va_P D vwCl [(h0, .inr (4, [.int 6, .int 5, .null, .int 0])), (q1, .inl (G 0, 30, .inl fun _ => 0))] H := hP
  have hD : va_D A [(h0, .inr (4, [.int 6, .int 5, .null, .int 0])), (q1, .inl (G 0, 30, .inl fun _ => 0))] := hD
  refine W.widen (k := 1) (n := 30) (Nat.le_of_ble_eq_true rfl) (Nat.le_of_ble_eq_true rfl) ?_
  refine va_putF (D := D) (ci := 4) (v := .ref q1) (ty := (.array .int)) (C := RX4) (T := TX4) (N := 4) hx hb hT.oks (u_ok 4 (by decide)) tyX4 tyX4_ok nmX4 hown hK hP hD hS 0 rfl rfl 2 (by decide) (hT.tin (i := 129) (w := .fieldLink RX4 22 RX4 "cells" "[I") (by decide +kernel)) (fun _ h => h) rfl hin rfl (by decide +kernel) rfl rfl (Nat.le_of_ble_eq_true rfl) (by decide +kernel : decode cX4_init 34 = .ok (.putfield 22, 3)) (fun H locs hP hD hS => ?_)
  have hP : va_P D vwCl [(h0, .inr (4, [.int 6, .int 5, .ref q1, .int 0])), (q1, .inl (G 0, 30, .inl fun _ => 0))] H := hP
  have hD : va_D A [(h0, .inr (4, [.int 6, .int 5, .ref q1, .int 0])), (q1, .inl (G 0, 30, .inl fun _ => 0))] := hD
  exact W.vret hx hb hr (fun t ht hW => ⟨⟨[(h0, .inr (4, [.int 6, .int 5, .ref q1, .int 0])), (q1, .inl (G 0, 30, .inl fun _ => 0))], rfl, ⟨q1, rfl⟩, by rw [ht]; exact hP, hD⟩, hS.F ht⟩) hS.2.2 (by decide +kernel : decode cX4_init 37 = .ok (.return_, 1))

def SHini4c (G : Nat → ClassId) (h0 : Nat) (w : va_W) : Prop := ∃ q1 : Nat, w = [(h0, .inr (4, [.int 6, .int 4, .ref q1, .int 0])), (q1, .inl (G 0, 24, .inl fun _ => 0))]
set_option maxHeartbeats 1000000 in
set_option maxRecDepth 100000 in
theorem ini4c (l : Launch) (D : va_G) (G : Nat → ClassId) (h0 : Nat) (sz : Nat) : Met l yX4_init [.code yX4_init cX4_init 3 none] { frames := 2, cells := 1, slots := 24, locals := 60 } (va_Pc [.ref h0, .int 6, .int 4] (IP D G [(h0, .inr (4, [.int 0, .int 0, .null, .int 0]))] sz)) (va_Qv (SHini4c G h0) (fun w t => va_P D vwCl w t.heap ∧ va_D (va_A [(h0, .inr (4, [.int 0, .int 0, .null, .int 0]))] sz) w) (va_A [(h0, .inr (4, [.int 0, .int 0, .null, .int 0]))] sz)) 1 24 (va_A [(h0, .inr (4, [.int 0, .int 0, .null, .int 0]))] sz) := by
  refine Met.ofW (cc := cX4_init) (maxL := 3) (ret := none) (by decide) rfl ?_
  intro p e s m args below meth c s₁ B hml hv
  obtain ⟨rfl, hsz, hP, hI⟩ := hv
  have hK := hI.1
  have hT := hI.2.1
  have hx := B.exec
  have hb := B.bytes
  have hr := B.returns
  have hown : s.vm.findClass RX4 = some m.cls := findClass_of_methodNamed B.named
  have hlocks := B.notSynchronized
  have hin : meth.name = "<init>" := (name_of_methodNamed B.named B.method).1
  subst hsz
  have hA : ∀ q : Nat, s.heap.size ≤ q → va_A [(h0, .inr (4, [.int 0, .int 0, .null, .int 0]))] s.heap.size q := fun q h => Or.inr h
  have hD : va_D (va_A [(h0, .inr (4, [.int 0, .int 0, .null, .int 0]))] s.heap.size) [(h0, .inr (4, [.int 0, .int 0, .null, .int 0]))] := va_D1 (Or.inl ⟨0, _, rfl⟩)
  generalize va_A [(h0, .inr (4, [.int 0, .int 0, .null, .int 0]))] s.heap.size = A at hD hA ⊢
  have hS : va_S A s.heap s.heap [] := va_S.rf
  have hP : va_P D vwCl [(h0, .inr (4, [.int 0, .int 0, .null, .int 0]))] s.heap := hP
  have hl := lv_entry ([.ref h0, .int 6, .int 4]) (n := 3) (Nat.le_of_ble_eq_true rfl)
  rw [lg_entry_eq]
  generalize (lg_sl ([.ref h0, .int 6, .int 4]) ++ List.replicate (3 - (lg_sl ([.ref h0, .int 6, .int 4])).length) Slot.unset).toArray = ls at hl ⊢
  have hl : lv_has ls 3 [(0, .ref h0), (1, .int 6), (2, .int 4)] := hl
  refine lv_aload_n hx hb (by decide +kernel : decode cX4_init 0 = .ok (.aload_n 0, 1)) rfl (lv_at hl 0 rfl) ?_
  refine W.objInit hx hb hown (hT.tin (i := 123) (w := .methodLink RX4 1 objectInit) (by decide +kernel)) (hT.tin (i := 110) (w := .instanceMethod objectInit) (by decide +kernel)) (hT.tin (i := 111) (w := .code objectInit ⟨#[0xb1]⟩ 1 none) (by decide +kernel)) rfl (by rw [hml]; exact hl.1) rfl (by decide +kernel : decode cX4_init 1 = .ok (.invokespecial 1, 3)) (Nat.le_of_ble_eq_true rfl) (Nat.le_of_ble_eq_true rfl) ?_
  refine W.eq (g2 := F0 m 4 ls []) rfl ?_
  refine lv_aload_n hx hb (by decide +kernel : decode cX4_init 4 = .ok (.aload_n 0, 1)) rfl (lv_at hl 0 rfl) ?_
  refine lv_iconst (v := 0) hx hb (by decide +kernel : decode cX4_init 5 = .ok (.iconst 0, 1)) (by decide) ?_
  refine lv_iload_n hx hb (by decide +kernel : decode cX4_init 6 = .ok (.iload_n 1, 1)) rfl (lv_at hl 1 rfl) ?_
  refine va_mmax hx hb (by rw [hml]; exact hl.1.symm) hown (hT.tin (i := 124) (w := .methodLink RX4 7 Lib.Math.max.name) (by decide +kernel)) (hT.tin (i := 125) (w := .static Lib.Math.max.name) (by decide +kernel)) (hT.tin (i := 94) (w := .initialized "java/lang/Math") (by decide +kernel)) (hT.tin (i := 126) (w := .code Lib.Math.max.name Lib.Math.max.code 2 (some .int)) (by decide +kernel)) (Nat.le_of_ble_eq_true rfl) (Nat.le_of_ble_eq_true rfl) (Nat.le_of_ble_eq_true rfl) (Nat.le_of_ble_eq_true rfl) (by decide +kernel : decode cX4_init 7 = .ok (.invokestatic 7, 3)) ?_
  rw [show (if (0 : Int32) < 6 then (6 : Int32) else 0) = 6 from by decide]
  refine va_putF (D := D) (ci := 4) (v := .int 6) (ty := .int) (C := RX4) (T := TX4) (N := 4) hx hb hT.oks (u_ok 4 (by decide)) tyX4 tyX4_ok nmX4 hown hK hP hD hS 0 rfl rfl 0 (by decide) (hT.tin (i := 127) (w := .fieldLink RX4 13 RX4 "most" "I") (by decide +kernel)) (fun _ h => h) rfl hin rfl (by decide +kernel) rfl rfl (Nat.le_of_ble_eq_true rfl) (by decide +kernel : decode cX4_init 10 = .ok (.putfield 13, 3)) (fun H locs hP hD hS => ?_)
  have hP : va_P D vwCl [(h0, .inr (4, [.int 6, .int 0, .null, .int 0]))] H := hP
  have hD : va_D A [(h0, .inr (4, [.int 6, .int 0, .null, .int 0]))] := hD
  refine lv_aload_n hx hb (by decide +kernel : decode cX4_init 13 = .ok (.aload_n 0, 1)) rfl (lv_at hl 0 rfl) ?_
  refine lv_iconst (v := 0) hx hb (by decide +kernel : decode cX4_init 14 = .ok (.iconst 0, 1)) (by decide) ?_
  refine lv_iload_n hx hb (by decide +kernel : decode cX4_init 15 = .ok (.iload_n 2, 1)) rfl (lv_at hl 2 rfl) ?_
  refine va_mmax hx hb (by rw [hml]; exact hl.1.symm) hown (hT.tin (i := 124) (w := .methodLink RX4 7 Lib.Math.max.name) (by decide +kernel)) (hT.tin (i := 125) (w := .static Lib.Math.max.name) (by decide +kernel)) (hT.tin (i := 94) (w := .initialized "java/lang/Math") (by decide +kernel)) (hT.tin (i := 126) (w := .code Lib.Math.max.name Lib.Math.max.code 2 (some .int)) (by decide +kernel)) (Nat.le_of_ble_eq_true rfl) (Nat.le_of_ble_eq_true rfl) (Nat.le_of_ble_eq_true rfl) (Nat.le_of_ble_eq_true rfl) (by decide +kernel : decode cX4_init 16 = .ok (.invokestatic 7, 3)) ?_
  rw [show (if (0 : Int32) < 4 then (4 : Int32) else 0) = 4 from by decide]
  refine va_putF (D := D) (ci := 4) (v := .int 4) (ty := .int) (C := RX4) (T := TX4) (N := 4) hx hb hT.oks (u_ok 4 (by decide)) tyX4 tyX4_ok nmX4 hown hK hP hD hS 0 rfl rfl 1 (by decide) (hT.tin (i := 128) (w := .fieldLink RX4 19 RX4 "width" "I") (by decide +kernel)) (fun _ h => h) rfl hin rfl (by decide +kernel) rfl rfl (Nat.le_of_ble_eq_true rfl) (by decide +kernel : decode cX4_init 19 = .ok (.putfield 19, 3)) (fun H locs hP hD hS => ?_)
  have hP : va_P D vwCl [(h0, .inr (4, [.int 6, .int 4, .null, .int 0]))] H := hP
  have hD : va_D A [(h0, .inr (4, [.int 6, .int 4, .null, .int 0]))] := hD
  refine lv_aload_n hx hb (by decide +kernel : decode cX4_init 22 = .ok (.aload_n 0, 1)) rfl (lv_at hl 0 rfl) ?_
  refine lv_aload_n hx hb (by decide +kernel : decode cX4_init 23 = .ok (.aload_n 0, 1)) rfl (lv_at hl 0 rfl) ?_
  refine va_get (D := D) (ci := 4) (v := .int 6) (C := RX4) (T := TX4) (N := 4) hx hb hT.oks (u_ok 4 (by decide)) hown hK hP 0 rfl rfl 0 (by decide) (hT.tin (i := 127) (w := .fieldLink RX4 13 RX4 "most" "I") (by decide +kernel)) (fun _ h => h) rfl (by decide +kernel : decode cX4_init 24 = .ok (.getfield 13, 3)) ?_
  refine lv_aload_n hx hb (by decide +kernel : decode cX4_init 27 = .ok (.aload_n 0, 1)) rfl (lv_at hl 0 rfl) ?_
  refine va_get (D := D) (ci := 4) (v := .int 4) (C := RX4) (T := TX4) (N := 4) hx hb hT.oks (u_ok 4 (by decide)) hown hK hP 0 rfl rfl 1 (by decide) (hT.tin (i := 128) (w := .fieldLink RX4 19 RX4 "width" "I") (by decide +kernel)) (fun _ h => h) rfl (by decide +kernel : decode cX4_init 28 = .ok (.getfield 19, 3)) ?_
  refine lv_imul hx hb (by decide +kernel : decode cX4_init 31 = .ok (.imul, 1)) ?_
  rw [show (6 : Int32) * 4 = 24 from by decide]
  refine ini_arr (N' := 24) 0 hx hb (atype := .int) (ty := .int) rfl (hI.2.2.1 _).1 rfl (fun _ h => h) hK hP hD hS hA rfl (by decide) (by decide) (Nat.le_of_ble_eq_true rfl) (Nat.le_of_ble_eq_true rfl) (Nat.le_of_ble_eq_true rfl) (by decide +kernel : decode cX4_init 32 = .ok (.newarray .int, 2)) (fun q1 H hP hD hS => ?_)
  have hP : va_P D vwCl [(h0, .inr (4, [.int 6, .int 4, .null, .int 0])), (q1, .inl (G 0, 24, .inl fun _ => 0))] H := hP
  have hD : va_D A [(h0, .inr (4, [.int 6, .int 4, .null, .int 0])), (q1, .inl (G 0, 24, .inl fun _ => 0))] := hD
  refine W.widen (k := 1) (n := 24) (Nat.le_of_ble_eq_true rfl) (Nat.le_of_ble_eq_true rfl) ?_
  refine va_putF (D := D) (ci := 4) (v := .ref q1) (ty := (.array .int)) (C := RX4) (T := TX4) (N := 4) hx hb hT.oks (u_ok 4 (by decide)) tyX4 tyX4_ok nmX4 hown hK hP hD hS 0 rfl rfl 2 (by decide) (hT.tin (i := 129) (w := .fieldLink RX4 22 RX4 "cells" "[I") (by decide +kernel)) (fun _ h => h) rfl hin rfl (by decide +kernel) rfl rfl (Nat.le_of_ble_eq_true rfl) (by decide +kernel : decode cX4_init 34 = .ok (.putfield 22, 3)) (fun H locs hP hD hS => ?_)
  have hP : va_P D vwCl [(h0, .inr (4, [.int 6, .int 4, .ref q1, .int 0])), (q1, .inl (G 0, 24, .inl fun _ => 0))] H := hP
  have hD : va_D A [(h0, .inr (4, [.int 6, .int 4, .ref q1, .int 0])), (q1, .inl (G 0, 24, .inl fun _ => 0))] := hD
  exact W.vret hx hb hr (fun t ht hW => ⟨⟨[(h0, .inr (4, [.int 6, .int 4, .ref q1, .int 0])), (q1, .inl (G 0, 24, .inl fun _ => 0))], rfl, ⟨q1, rfl⟩, by rw [ht]; exact hP, hD⟩, hS.F ht⟩) hS.2.2 (by decide +kernel : decode cX4_init 37 = .ok (.return_, 1))

def SHini0 (G : Nat → ClassId) (h0 : Nat) (tr : Nat) (w : va_W) : Prop := ∃ q1 q2 : Nat, w = [(h0, .inr (0, [.ref tr, .ref q1, .ref q2, .int 0, .int 0])), (q1, .inl (G 0, 5, .inl fun _ => 0)), (q2, .inl (G 0, 7, .inl fun _ => 0))]
set_option maxHeartbeats 1000000 in
set_option maxRecDepth 100000 in
theorem ini0 (l : Launch) (D : va_G) (G : Nat → ClassId) (h0 : Nat) (tr : Nat) (sz : Nat) : Met l yX0_init [.code yX0_init cX0_init 2 none] { frames := 2, cells := 2, slots := 12, locals := 40 } (va_Pc [.ref h0, .ref tr] (IP D G [(h0, .inr (0, [.null, .null, .null, .int 0, .int 0]))] sz)) (va_Qv (SHini0 G h0 tr) (fun w t => va_P D vwCl w t.heap ∧ va_D (va_A [(h0, .inr (0, [.null, .null, .null, .int 0, .int 0]))] sz) w) (va_A [(h0, .inr (0, [.null, .null, .null, .int 0, .int 0]))] sz)) 2 12 (va_A [(h0, .inr (0, [.null, .null, .null, .int 0, .int 0]))] sz) := by
  refine Met.ofW (cc := cX0_init) (maxL := 2) (ret := none) (by decide) rfl ?_
  intro p e s m args below meth c s₁ B hml hv
  obtain ⟨rfl, hsz, hP, hI⟩ := hv
  have hK := hI.1
  have hT := hI.2.1
  have hx := B.exec
  have hb := B.bytes
  have hr := B.returns
  have hown : s.vm.findClass RX0 = some m.cls := findClass_of_methodNamed B.named
  have hlocks := B.notSynchronized
  have hin : meth.name = "<init>" := (name_of_methodNamed B.named B.method).1
  subst hsz
  have hA : ∀ q : Nat, s.heap.size ≤ q → va_A [(h0, .inr (0, [.null, .null, .null, .int 0, .int 0]))] s.heap.size q := fun q h => Or.inr h
  have hD : va_D (va_A [(h0, .inr (0, [.null, .null, .null, .int 0, .int 0]))] s.heap.size) [(h0, .inr (0, [.null, .null, .null, .int 0, .int 0]))] := va_D1 (Or.inl ⟨0, _, rfl⟩)
  generalize va_A [(h0, .inr (0, [.null, .null, .null, .int 0, .int 0]))] s.heap.size = A at hD hA ⊢
  have hS : va_S A s.heap s.heap [] := va_S.rf
  have hP : va_P D vwCl [(h0, .inr (0, [.null, .null, .null, .int 0, .int 0]))] s.heap := hP
  have hl := lv_entry ([.ref h0, .ref tr]) (n := 2) (Nat.le_of_ble_eq_true rfl)
  rw [lg_entry_eq]
  generalize (lg_sl ([.ref h0, .ref tr]) ++ List.replicate (2 - (lg_sl ([.ref h0, .ref tr])).length) Slot.unset).toArray = ls at hl ⊢
  have hl : lv_has ls 2 [(0, .ref h0), (1, .ref tr)] := hl
  refine lv_aload_n hx hb (by decide +kernel : decode cX0_init 0 = .ok (.aload_n 0, 1)) rfl (lv_at hl 0 rfl) ?_
  refine W.objInit hx hb hown (hT.tin (i := 254) (w := .methodLink RX0 3 objectInit) (by decide +kernel)) (hT.tin (i := 110) (w := .instanceMethod objectInit) (by decide +kernel)) (hT.tin (i := 111) (w := .code objectInit ⟨#[0xb1]⟩ 1 none) (by decide +kernel)) rfl (by rw [hml]; exact hl.1) rfl (by decide +kernel : decode cX0_init 1 = .ok (.invokespecial 3, 3)) (Nat.le_of_ble_eq_true rfl) (Nat.le_of_ble_eq_true rfl) ?_
  refine W.eq (g2 := F0 m 4 ls []) rfl ?_
  refine lv_aload_n hx hb (by decide +kernel : decode cX0_init 4 = .ok (.aload_n 0, 1)) rfl (lv_at hl 0 rfl) ?_
  refine lv_iconst (v := 5) hx hb (by decide +kernel : decode cX0_init 5 = .ok (.iconst 5, 1)) (by decide) ?_
  refine ini_arr (N' := 5) 0 hx hb (atype := .int) (ty := .int) rfl (hI.2.2.1 _).1 rfl (fun _ h => h) hK hP hD hS hA rfl (by decide) (by decide) (Nat.le_of_ble_eq_true rfl) (Nat.le_of_ble_eq_true rfl) (Nat.le_of_ble_eq_true rfl) (by decide +kernel : decode cX0_init 6 = .ok (.newarray .int, 2)) (fun q1 H hP hD hS => ?_)
  have hP : va_P D vwCl [(h0, .inr (0, [.null, .null, .null, .int 0, .int 0])), (q1, .inl (G 0, 5, .inl fun _ => 0))] H := hP
  have hD : va_D A [(h0, .inr (0, [.null, .null, .null, .int 0, .int 0])), (q1, .inl (G 0, 5, .inl fun _ => 0))] := hD
  refine W.widen (k := 1) (n := 5) (Nat.le_of_ble_eq_true rfl) (Nat.le_of_ble_eq_true rfl) ?_
  refine va_putF (D := D) (ci := 0) (v := .ref q1) (ty := (.array .int)) (C := RX0) (T := TX0) (N := 5) hx hb hT.oks (u_ok 0 (by decide)) tyX0 tyX0_ok nmX0 hown hK hP hD hS 0 rfl rfl 1 (by decide) (hT.tin (i := 256) (w := .fieldLink RX0 9 RX0 "row" "[I") (by decide +kernel)) (fun _ h => h) rfl hin rfl (by decide +kernel) rfl rfl (Nat.le_of_ble_eq_true rfl) (by decide +kernel : decode cX0_init 8 = .ok (.putfield 9, 3)) (fun H locs hP hD hS => ?_)
  have hP : va_P D vwCl [(h0, .inr (0, [.null, .ref q1, .null, .int 0, .int 0])), (q1, .inl (G 0, 5, .inl fun _ => 0))] H := hP
  have hD : va_D A [(h0, .inr (0, [.null, .ref q1, .null, .int 0, .int 0])), (q1, .inl (G 0, 5, .inl fun _ => 0))] := hD
  refine lv_aload_n hx hb (by decide +kernel : decode cX0_init 11 = .ok (.aload_n 0, 1)) rfl (lv_at hl 0 rfl) ?_
  refine lv_bipush (v := 7) hx hb (by decide +kernel : decode cX0_init 12 = .ok (.bipush 7, 2)) (by decide) ?_
  refine ini_arr (N' := 7) 0 hx hb (atype := .int) (ty := .int) rfl (hI.2.2.1 _).1 rfl (fun _ h => h) hK hP hD hS hA rfl (by decide) (by decide) (Nat.le_of_ble_eq_true rfl) (Nat.le_of_ble_eq_true rfl) (Nat.le_of_ble_eq_true rfl) (by decide +kernel : decode cX0_init 14 = .ok (.newarray .int, 2)) (fun q2 H hP hD hS => ?_)
  have hP : va_P D vwCl [(h0, .inr (0, [.null, .ref q1, .null, .int 0, .int 0])), (q1, .inl (G 0, 5, .inl fun _ => 0)), (q2, .inl (G 0, 7, .inl fun _ => 0))] H := hP
  have hD : va_D A [(h0, .inr (0, [.null, .ref q1, .null, .int 0, .int 0])), (q1, .inl (G 0, 5, .inl fun _ => 0)), (q2, .inl (G 0, 7, .inl fun _ => 0))] := hD
  refine W.widen (k := 2) (n := 12) (Nat.le_of_ble_eq_true rfl) (Nat.le_of_ble_eq_true rfl) ?_
  refine va_putF (D := D) (ci := 0) (v := .ref q2) (ty := (.array .int)) (C := RX0) (T := TX0) (N := 5) hx hb hT.oks (u_ok 0 (by decide)) tyX0 tyX0_ok nmX0 hown hK hP hD hS 0 rfl rfl 2 (by decide) (hT.tin (i := 258) (w := .fieldLink RX0 15 RX0 "known" "[I") (by decide +kernel)) (fun _ h => h) rfl hin rfl (by decide +kernel) rfl rfl (Nat.le_of_ble_eq_true rfl) (by decide +kernel : decode cX0_init 16 = .ok (.putfield 15, 3)) (fun H locs hP hD hS => ?_)
  have hP : va_P D vwCl [(h0, .inr (0, [.null, .ref q1, .ref q2, .int 0, .int 0])), (q1, .inl (G 0, 5, .inl fun _ => 0)), (q2, .inl (G 0, 7, .inl fun _ => 0))] H := hP
  have hD : va_D A [(h0, .inr (0, [.null, .ref q1, .ref q2, .int 0, .int 0])), (q1, .inl (G 0, 5, .inl fun _ => 0)), (q2, .inl (G 0, 7, .inl fun _ => 0))] := hD
  refine lv_aload_n hx hb (by decide +kernel : decode cX0_init 19 = .ok (.aload_n 0, 1)) rfl (lv_at hl 0 rfl) ?_
  refine lv_aload_n hx hb (by decide +kernel : decode cX0_init 20 = .ok (.aload_n 1, 1)) rfl (lv_at hl 1 rfl) ?_
  refine va_putF (D := D) (ci := 0) (v := .ref tr) (ty := (.object "OvenLies$Town")) (C := RX0) (T := TX0) (N := 5) hx hb hT.oks (u_ok 0 (by decide)) tyX0 tyX0_ok nmX0 hown hK hP hD hS 0 rfl rfl 0 (by decide) (hT.tin (i := 255) (w := .fieldLink RX0 18 RX0 "town" "LOvenLies$Town;") (by decide +kernel)) (fun _ h => h) rfl hin rfl (by decide +kernel) rfl rfl (Nat.le_of_ble_eq_true rfl) (by decide +kernel : decode cX0_init 21 = .ok (.putfield 18, 3)) (fun H locs hP hD hS => ?_)
  have hP : va_P D vwCl [(h0, .inr (0, [.ref tr, .ref q1, .ref q2, .int 0, .int 0])), (q1, .inl (G 0, 5, .inl fun _ => 0)), (q2, .inl (G 0, 7, .inl fun _ => 0))] H := hP
  have hD : va_D A [(h0, .inr (0, [.ref tr, .ref q1, .ref q2, .int 0, .int 0])), (q1, .inl (G 0, 5, .inl fun _ => 0)), (q2, .inl (G 0, 7, .inl fun _ => 0))] := hD
  exact W.vret hx hb hr (fun t ht hW => ⟨⟨[(h0, .inr (0, [.ref tr, .ref q1, .ref q2, .int 0, .int 0])), (q1, .inl (G 0, 5, .inl fun _ => 0)), (q2, .inl (G 0, 7, .inl fun _ => 0))], rfl, ⟨q1, q2, rfl⟩, by rw [ht]; exact hP, hD⟩, hS.F ht⟩) hS.2.2 (by decide +kernel : decode cX0_init 24 = .ok (.return_, 1))

def SHini3 (G : Nat → ClassId) (h0 : Nat) (tr : Nat) (w : va_W) : Prop := ∃ q1 q2 q3 q4 q5 : Nat, w = [(h0, .inr (3, [.ref tr, .ref q1, .ref q2, .ref q3, .ref q4, .ref q5, .int 0, .int 0])), (q1, .inl (G 0, 5, .inl fun _ => 0)), (q2, .inl (G 0, 5, .inl fun _ => 0)), (q3, .inl (G 0, 7, .inl fun _ => 0)), (q4, .inl (G 0, 6, .inl fun _ => 0)), (q5, .inl (G 0, 6, .inl fun _ => 0))]
set_option maxHeartbeats 1000000 in
set_option maxRecDepth 100000 in
theorem ini3 (l : Launch) (D : va_G) (G : Nat → ClassId) (h0 : Nat) (tr : Nat) (sz : Nat) : Met l yX3_init [.code yX3_init cX3_init 2 none] { frames := 2, cells := 5, slots := 29, locals := 40 } (va_Pc [.ref h0, .ref tr] (IP D G [(h0, .inr (3, [.null, .null, .null, .null, .null, .null, .int 0, .int 0]))] sz)) (va_Qv (SHini3 G h0 tr) (fun w t => va_P D vwCl w t.heap ∧ va_D (va_A [(h0, .inr (3, [.null, .null, .null, .null, .null, .null, .int 0, .int 0]))] sz) w) (va_A [(h0, .inr (3, [.null, .null, .null, .null, .null, .null, .int 0, .int 0]))] sz)) 5 29 (va_A [(h0, .inr (3, [.null, .null, .null, .null, .null, .null, .int 0, .int 0]))] sz) := by
  refine Met.ofW (cc := cX3_init) (maxL := 2) (ret := none) (by decide) rfl ?_
  intro p e s m args below meth c s₁ B hml hv
  obtain ⟨rfl, hsz, hP, hI⟩ := hv
  have hK := hI.1
  have hT := hI.2.1
  have hx := B.exec
  have hb := B.bytes
  have hr := B.returns
  have hown : s.vm.findClass RX3 = some m.cls := findClass_of_methodNamed B.named
  have hlocks := B.notSynchronized
  have hin : meth.name = "<init>" := (name_of_methodNamed B.named B.method).1
  subst hsz
  have hA : ∀ q : Nat, s.heap.size ≤ q → va_A [(h0, .inr (3, [.null, .null, .null, .null, .null, .null, .int 0, .int 0]))] s.heap.size q := fun q h => Or.inr h
  have hD : va_D (va_A [(h0, .inr (3, [.null, .null, .null, .null, .null, .null, .int 0, .int 0]))] s.heap.size) [(h0, .inr (3, [.null, .null, .null, .null, .null, .null, .int 0, .int 0]))] := va_D1 (Or.inl ⟨0, _, rfl⟩)
  generalize va_A [(h0, .inr (3, [.null, .null, .null, .null, .null, .null, .int 0, .int 0]))] s.heap.size = A at hD hA ⊢
  have hS : va_S A s.heap s.heap [] := va_S.rf
  have hP : va_P D vwCl [(h0, .inr (3, [.null, .null, .null, .null, .null, .null, .int 0, .int 0]))] s.heap := hP
  have hl := lv_entry ([.ref h0, .ref tr]) (n := 2) (Nat.le_of_ble_eq_true rfl)
  rw [lg_entry_eq]
  generalize (lg_sl ([.ref h0, .ref tr]) ++ List.replicate (2 - (lg_sl ([.ref h0, .ref tr])).length) Slot.unset).toArray = ls at hl ⊢
  have hl : lv_has ls 2 [(0, .ref h0), (1, .ref tr)] := hl
  refine lv_aload_n hx hb (by decide +kernel : decode cX3_init 0 = .ok (.aload_n 0, 1)) rfl (lv_at hl 0 rfl) ?_
  refine W.objInit hx hb hown (hT.tin (i := 277) (w := .methodLink RX3 3 objectInit) (by decide +kernel)) (hT.tin (i := 110) (w := .instanceMethod objectInit) (by decide +kernel)) (hT.tin (i := 111) (w := .code objectInit ⟨#[0xb1]⟩ 1 none) (by decide +kernel)) rfl (by rw [hml]; exact hl.1) rfl (by decide +kernel : decode cX3_init 1 = .ok (.invokespecial 3, 3)) (Nat.le_of_ble_eq_true rfl) (Nat.le_of_ble_eq_true rfl) ?_
  refine W.eq (g2 := F0 m 4 ls []) rfl ?_
  refine lv_aload_n hx hb (by decide +kernel : decode cX3_init 4 = .ok (.aload_n 0, 1)) rfl (lv_at hl 0 rfl) ?_
  refine lv_iconst (v := 5) hx hb (by decide +kernel : decode cX3_init 5 = .ok (.iconst 5, 1)) (by decide) ?_
  refine ini_arr (N' := 5) 0 hx hb (atype := .int) (ty := .int) rfl (hI.2.2.1 _).1 rfl (fun _ h => h) hK hP hD hS hA rfl (by decide) (by decide) (Nat.le_of_ble_eq_true rfl) (Nat.le_of_ble_eq_true rfl) (Nat.le_of_ble_eq_true rfl) (by decide +kernel : decode cX3_init 6 = .ok (.newarray .int, 2)) (fun q1 H hP hD hS => ?_)
  have hP : va_P D vwCl [(h0, .inr (3, [.null, .null, .null, .null, .null, .null, .int 0, .int 0])), (q1, .inl (G 0, 5, .inl fun _ => 0))] H := hP
  have hD : va_D A [(h0, .inr (3, [.null, .null, .null, .null, .null, .null, .int 0, .int 0])), (q1, .inl (G 0, 5, .inl fun _ => 0))] := hD
  refine W.widen (k := 1) (n := 5) (Nat.le_of_ble_eq_true rfl) (Nat.le_of_ble_eq_true rfl) ?_
  refine va_putF (D := D) (ci := 3) (v := .ref q1) (ty := (.array .int)) (C := RX3) (T := TX3) (N := 8) hx hb hT.oks (u_ok 3 (by decide)) tyX3 tyX3_ok nmX3 hown hK hP hD hS 0 rfl rfl 1 (by decide) (hT.tin (i := 279) (w := .fieldLink RX3 9 RX3 "way" "[I") (by decide +kernel)) (fun _ h => h) rfl hin rfl (by decide +kernel) rfl rfl (Nat.le_of_ble_eq_true rfl) (by decide +kernel : decode cX3_init 8 = .ok (.putfield 9, 3)) (fun H locs hP hD hS => ?_)
  have hP : va_P D vwCl [(h0, .inr (3, [.null, .ref q1, .null, .null, .null, .null, .int 0, .int 0])), (q1, .inl (G 0, 5, .inl fun _ => 0))] H := hP
  have hD : va_D A [(h0, .inr (3, [.null, .ref q1, .null, .null, .null, .null, .int 0, .int 0])), (q1, .inl (G 0, 5, .inl fun _ => 0))] := hD
  refine lv_aload_n hx hb (by decide +kernel : decode cX3_init 11 = .ok (.aload_n 0, 1)) rfl (lv_at hl 0 rfl) ?_
  refine lv_iconst (v := 5) hx hb (by decide +kernel : decode cX3_init 12 = .ok (.iconst 5, 1)) (by decide) ?_
  refine ini_arr (N' := 5) 0 hx hb (atype := .int) (ty := .int) rfl (hI.2.2.1 _).1 rfl (fun _ h => h) hK hP hD hS hA rfl (by decide) (by decide) (Nat.le_of_ble_eq_true rfl) (Nat.le_of_ble_eq_true rfl) (Nat.le_of_ble_eq_true rfl) (by decide +kernel : decode cX3_init 13 = .ok (.newarray .int, 2)) (fun q2 H hP hD hS => ?_)
  have hP : va_P D vwCl [(h0, .inr (3, [.null, .ref q1, .null, .null, .null, .null, .int 0, .int 0])), (q1, .inl (G 0, 5, .inl fun _ => 0)), (q2, .inl (G 0, 5, .inl fun _ => 0))] H := hP
  have hD : va_D A [(h0, .inr (3, [.null, .ref q1, .null, .null, .null, .null, .int 0, .int 0])), (q1, .inl (G 0, 5, .inl fun _ => 0)), (q2, .inl (G 0, 5, .inl fun _ => 0))] := hD
  refine W.widen (k := 2) (n := 10) (Nat.le_of_ble_eq_true rfl) (Nat.le_of_ble_eq_true rfl) ?_
  refine va_putF (D := D) (ci := 3) (v := .ref q2) (ty := (.array .int)) (C := RX3) (T := TX3) (N := 8) hx hb hT.oks (u_ok 3 (by decide)) tyX3 tyX3_ok nmX3 hown hK hP hD hS 0 rfl rfl 2 (by decide) (hT.tin (i := 280) (w := .fieldLink RX3 15 RX3 "best" "[I") (by decide +kernel)) (fun _ h => h) rfl hin rfl (by decide +kernel) rfl rfl (Nat.le_of_ble_eq_true rfl) (by decide +kernel : decode cX3_init 15 = .ok (.putfield 15, 3)) (fun H locs hP hD hS => ?_)
  have hP : va_P D vwCl [(h0, .inr (3, [.null, .ref q1, .ref q2, .null, .null, .null, .int 0, .int 0])), (q1, .inl (G 0, 5, .inl fun _ => 0)), (q2, .inl (G 0, 5, .inl fun _ => 0))] H := hP
  have hD : va_D A [(h0, .inr (3, [.null, .ref q1, .ref q2, .null, .null, .null, .int 0, .int 0])), (q1, .inl (G 0, 5, .inl fun _ => 0)), (q2, .inl (G 0, 5, .inl fun _ => 0))] := hD
  refine lv_aload_n hx hb (by decide +kernel : decode cX3_init 18 = .ok (.aload_n 0, 1)) rfl (lv_at hl 0 rfl) ?_
  refine lv_bipush (v := 7) hx hb (by decide +kernel : decode cX3_init 19 = .ok (.bipush 7, 2)) (by decide) ?_
  refine ini_arr (N' := 7) 0 hx hb (atype := .int) (ty := .int) rfl (hI.2.2.1 _).1 rfl (fun _ h => h) hK hP hD hS hA rfl (by decide) (by decide) (Nat.le_of_ble_eq_true rfl) (Nat.le_of_ble_eq_true rfl) (Nat.le_of_ble_eq_true rfl) (by decide +kernel : decode cX3_init 21 = .ok (.newarray .int, 2)) (fun q3 H hP hD hS => ?_)
  have hP : va_P D vwCl [(h0, .inr (3, [.null, .ref q1, .ref q2, .null, .null, .null, .int 0, .int 0])), (q1, .inl (G 0, 5, .inl fun _ => 0)), (q2, .inl (G 0, 5, .inl fun _ => 0)), (q3, .inl (G 0, 7, .inl fun _ => 0))] H := hP
  have hD : va_D A [(h0, .inr (3, [.null, .ref q1, .ref q2, .null, .null, .null, .int 0, .int 0])), (q1, .inl (G 0, 5, .inl fun _ => 0)), (q2, .inl (G 0, 5, .inl fun _ => 0)), (q3, .inl (G 0, 7, .inl fun _ => 0))] := hD
  refine W.widen (k := 3) (n := 17) (Nat.le_of_ble_eq_true rfl) (Nat.le_of_ble_eq_true rfl) ?_
  refine va_putF (D := D) (ci := 3) (v := .ref q3) (ty := (.array .int)) (C := RX3) (T := TX3) (N := 8) hx hb hT.oks (u_ok 3 (by decide)) tyX3 tyX3_ok nmX3 hown hK hP hD hS 0 rfl rfl 3 (by decide) (hT.tin (i := 282) (w := .fieldLink RX3 18 RX3 "known" "[I") (by decide +kernel)) (fun _ h => h) rfl hin rfl (by decide +kernel) rfl rfl (Nat.le_of_ble_eq_true rfl) (by decide +kernel : decode cX3_init 23 = .ok (.putfield 18, 3)) (fun H locs hP hD hS => ?_)
  have hP : va_P D vwCl [(h0, .inr (3, [.null, .ref q1, .ref q2, .ref q3, .null, .null, .int 0, .int 0])), (q1, .inl (G 0, 5, .inl fun _ => 0)), (q2, .inl (G 0, 5, .inl fun _ => 0)), (q3, .inl (G 0, 7, .inl fun _ => 0))] H := hP
  have hD : va_D A [(h0, .inr (3, [.null, .ref q1, .ref q2, .ref q3, .null, .null, .int 0, .int 0])), (q1, .inl (G 0, 5, .inl fun _ => 0)), (q2, .inl (G 0, 5, .inl fun _ => 0)), (q3, .inl (G 0, 7, .inl fun _ => 0))] := hD
  refine lv_aload_n hx hb (by decide +kernel : decode cX3_init 26 = .ok (.aload_n 0, 1)) rfl (lv_at hl 0 rfl) ?_
  refine lv_bipush (v := 6) hx hb (by decide +kernel : decode cX3_init 27 = .ok (.bipush 6, 2)) (by decide) ?_
  refine ini_arr (N' := 6) 0 hx hb (atype := .int) (ty := .int) rfl (hI.2.2.1 _).1 rfl (fun _ h => h) hK hP hD hS hA rfl (by decide) (by decide) (Nat.le_of_ble_eq_true rfl) (Nat.le_of_ble_eq_true rfl) (Nat.le_of_ble_eq_true rfl) (by decide +kernel : decode cX3_init 29 = .ok (.newarray .int, 2)) (fun q4 H hP hD hS => ?_)
  have hP : va_P D vwCl [(h0, .inr (3, [.null, .ref q1, .ref q2, .ref q3, .null, .null, .int 0, .int 0])), (q1, .inl (G 0, 5, .inl fun _ => 0)), (q2, .inl (G 0, 5, .inl fun _ => 0)), (q3, .inl (G 0, 7, .inl fun _ => 0)), (q4, .inl (G 0, 6, .inl fun _ => 0))] H := hP
  have hD : va_D A [(h0, .inr (3, [.null, .ref q1, .ref q2, .ref q3, .null, .null, .int 0, .int 0])), (q1, .inl (G 0, 5, .inl fun _ => 0)), (q2, .inl (G 0, 5, .inl fun _ => 0)), (q3, .inl (G 0, 7, .inl fun _ => 0)), (q4, .inl (G 0, 6, .inl fun _ => 0))] := hD
  refine W.widen (k := 4) (n := 23) (Nat.le_of_ble_eq_true rfl) (Nat.le_of_ble_eq_true rfl) ?_
  refine va_putF (D := D) (ci := 3) (v := .ref q4) (ty := (.array .int)) (C := RX3) (T := TX3) (N := 8) hx hb hT.oks (u_ok 3 (by decide)) tyX3 tyX3_ok nmX3 hown hK hP hD hS 0 rfl rfl 4 (by decide) (hT.tin (i := 283) (w := .fieldLink RX3 21 RX3 "hotAhead" "[I") (by decide +kernel)) (fun _ h => h) rfl hin rfl (by decide +kernel) rfl rfl (Nat.le_of_ble_eq_true rfl) (by decide +kernel : decode cX3_init 31 = .ok (.putfield 21, 3)) (fun H locs hP hD hS => ?_)
  have hP : va_P D vwCl [(h0, .inr (3, [.null, .ref q1, .ref q2, .ref q3, .ref q4, .null, .int 0, .int 0])), (q1, .inl (G 0, 5, .inl fun _ => 0)), (q2, .inl (G 0, 5, .inl fun _ => 0)), (q3, .inl (G 0, 7, .inl fun _ => 0)), (q4, .inl (G 0, 6, .inl fun _ => 0))] H := hP
  have hD : va_D A [(h0, .inr (3, [.null, .ref q1, .ref q2, .ref q3, .ref q4, .null, .int 0, .int 0])), (q1, .inl (G 0, 5, .inl fun _ => 0)), (q2, .inl (G 0, 5, .inl fun _ => 0)), (q3, .inl (G 0, 7, .inl fun _ => 0)), (q4, .inl (G 0, 6, .inl fun _ => 0))] := hD
  refine lv_aload_n hx hb (by decide +kernel : decode cX3_init 34 = .ok (.aload_n 0, 1)) rfl (lv_at hl 0 rfl) ?_
  refine lv_bipush (v := 6) hx hb (by decide +kernel : decode cX3_init 35 = .ok (.bipush 6, 2)) (by decide) ?_
  refine ini_arr (N' := 6) 0 hx hb (atype := .int) (ty := .int) rfl (hI.2.2.1 _).1 rfl (fun _ h => h) hK hP hD hS hA rfl (by decide) (by decide) (Nat.le_of_ble_eq_true rfl) (Nat.le_of_ble_eq_true rfl) (Nat.le_of_ble_eq_true rfl) (by decide +kernel : decode cX3_init 37 = .ok (.newarray .int, 2)) (fun q5 H hP hD hS => ?_)
  have hP : va_P D vwCl [(h0, .inr (3, [.null, .ref q1, .ref q2, .ref q3, .ref q4, .null, .int 0, .int 0])), (q1, .inl (G 0, 5, .inl fun _ => 0)), (q2, .inl (G 0, 5, .inl fun _ => 0)), (q3, .inl (G 0, 7, .inl fun _ => 0)), (q4, .inl (G 0, 6, .inl fun _ => 0)), (q5, .inl (G 0, 6, .inl fun _ => 0))] H := hP
  have hD : va_D A [(h0, .inr (3, [.null, .ref q1, .ref q2, .ref q3, .ref q4, .null, .int 0, .int 0])), (q1, .inl (G 0, 5, .inl fun _ => 0)), (q2, .inl (G 0, 5, .inl fun _ => 0)), (q3, .inl (G 0, 7, .inl fun _ => 0)), (q4, .inl (G 0, 6, .inl fun _ => 0)), (q5, .inl (G 0, 6, .inl fun _ => 0))] := hD
  refine W.widen (k := 5) (n := 29) (Nat.le_of_ble_eq_true rfl) (Nat.le_of_ble_eq_true rfl) ?_
  refine va_putF (D := D) (ci := 3) (v := .ref q5) (ty := (.array .int)) (C := RX3) (T := TX3) (N := 8) hx hb hT.oks (u_ok 3 (by decide)) tyX3 tyX3_ok nmX3 hown hK hP hD hS 0 rfl rfl 5 (by decide) (hT.tin (i := 284) (w := .fieldLink RX3 24 RX3 "heatAhead" "[I") (by decide +kernel)) (fun _ h => h) rfl hin rfl (by decide +kernel) rfl rfl (Nat.le_of_ble_eq_true rfl) (by decide +kernel : decode cX3_init 39 = .ok (.putfield 24, 3)) (fun H locs hP hD hS => ?_)
  have hP : va_P D vwCl [(h0, .inr (3, [.null, .ref q1, .ref q2, .ref q3, .ref q4, .ref q5, .int 0, .int 0])), (q1, .inl (G 0, 5, .inl fun _ => 0)), (q2, .inl (G 0, 5, .inl fun _ => 0)), (q3, .inl (G 0, 7, .inl fun _ => 0)), (q4, .inl (G 0, 6, .inl fun _ => 0)), (q5, .inl (G 0, 6, .inl fun _ => 0))] H := hP
  have hD : va_D A [(h0, .inr (3, [.null, .ref q1, .ref q2, .ref q3, .ref q4, .ref q5, .int 0, .int 0])), (q1, .inl (G 0, 5, .inl fun _ => 0)), (q2, .inl (G 0, 5, .inl fun _ => 0)), (q3, .inl (G 0, 7, .inl fun _ => 0)), (q4, .inl (G 0, 6, .inl fun _ => 0)), (q5, .inl (G 0, 6, .inl fun _ => 0))] := hD
  refine lv_aload_n hx hb (by decide +kernel : decode cX3_init 42 = .ok (.aload_n 0, 1)) rfl (lv_at hl 0 rfl) ?_
  refine lv_aload_n hx hb (by decide +kernel : decode cX3_init 43 = .ok (.aload_n 1, 1)) rfl (lv_at hl 1 rfl) ?_
  refine va_putF (D := D) (ci := 3) (v := .ref tr) (ty := (.object "OvenLies$Town")) (C := RX3) (T := TX3) (N := 8) hx hb hT.oks (u_ok 3 (by decide)) tyX3 tyX3_ok nmX3 hown hK hP hD hS 0 rfl rfl 0 (by decide) (hT.tin (i := 278) (w := .fieldLink RX3 27 RX3 "town" "LOvenLies$Town;") (by decide +kernel)) (fun _ h => h) rfl hin rfl (by decide +kernel) rfl rfl (Nat.le_of_ble_eq_true rfl) (by decide +kernel : decode cX3_init 44 = .ok (.putfield 27, 3)) (fun H locs hP hD hS => ?_)
  have hP : va_P D vwCl [(h0, .inr (3, [.ref tr, .ref q1, .ref q2, .ref q3, .ref q4, .ref q5, .int 0, .int 0])), (q1, .inl (G 0, 5, .inl fun _ => 0)), (q2, .inl (G 0, 5, .inl fun _ => 0)), (q3, .inl (G 0, 7, .inl fun _ => 0)), (q4, .inl (G 0, 6, .inl fun _ => 0)), (q5, .inl (G 0, 6, .inl fun _ => 0))] H := hP
  have hD : va_D A [(h0, .inr (3, [.ref tr, .ref q1, .ref q2, .ref q3, .ref q4, .ref q5, .int 0, .int 0])), (q1, .inl (G 0, 5, .inl fun _ => 0)), (q2, .inl (G 0, 5, .inl fun _ => 0)), (q3, .inl (G 0, 7, .inl fun _ => 0)), (q4, .inl (G 0, 6, .inl fun _ => 0)), (q5, .inl (G 0, 6, .inl fun _ => 0))] := hD
  exact W.vret hx hb hr (fun t ht hW => ⟨⟨[(h0, .inr (3, [.ref tr, .ref q1, .ref q2, .ref q3, .ref q4, .ref q5, .int 0, .int 0])), (q1, .inl (G 0, 5, .inl fun _ => 0)), (q2, .inl (G 0, 5, .inl fun _ => 0)), (q3, .inl (G 0, 7, .inl fun _ => 0)), (q4, .inl (G 0, 6, .inl fun _ => 0)), (q5, .inl (G 0, 6, .inl fun _ => 0))], rfl, ⟨q1, q2, q3, q4, q5, rfl⟩, by rw [ht]; exact hP, hD⟩, hS.F ht⟩) hS.2.2 (by decide +kernel : decode cX3_init 47 = .ok (.return_, 1))
