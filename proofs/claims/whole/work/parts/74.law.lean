-- the law: one run of the loop, case by case, by program (wip/whole/gen74.py)
section LAW
variable {d L : Nat} {xs : Nat → Int32} {i : Int} {σ : SG} {S : Nat → Int → Int} {Q : AV → SG → Prop}
theorem CR_of (h : CR σ S) {τ : SG} (hl : MLO σ τ) : CR τ S := CR_scr h (fun a b q => hl.1 a b (by unfold CRk at q; omega)) (fun b => hl.2 0 b (by omega))
theorem MR_of (h : MR σ S) {τ : SG} (hl : CLO σ τ) : MR τ S := MR_scr h (fun a b q => hl.1 a b (by unfold MRk at q; omega)) (fun b => hl.2 71 b (by omega))
theorem xs_in (x : Int32) : InR x.toInt := n32_in _
theorem c0 (h0 : 0 ≤ i) (h1 : i + 5 < (L : Int)) (hC : CR σ S) (hM : MR σ S) (hS : SOK S) (hn : ∀ τ S', CR τ S' → MR τ S' → SOK S' → Wp (some (L, xs)) (d + 20) 204 1219 [.inr (.inr (.inr 1)), .inr (.inr (.inl 0)), .inr (.inr (.inl 71)), .inl i] [] τ Q) : Wp (some (L, xs)) (d + 20) 204 196 [.inr (.inr (.inr 1)), .inr (.inr (.inl 0)), .inr (.inr (.inl 71)), .inl i] [] σ Q := by
  have hk : KEEP (fTown S) := w0 hS
  simp (disch := omega) only [q204_196, q204_197, Nat.zero_add]
  refine CalK_E (o45 (d := d) hC hS) (fun r τ hP => ?_)
  obtain ⟨rfl, hC1, hL1⟩ := hP
  simp (disch := omega) only [q204_200, q204_201, Nat.zero_add, pushR_I, pushR_L]
  refine CalK_E (o138 (d := d) (MR_of hM hL1) hS) (fun r υ hP => ?_)
  obtain ⟨rfl, hM2, hL2⟩ := hP
  simp only [pushR_I, pushR_L]
  rw [q204_204 hk.2 hk.2, if_pos rfl]
  exact hn υ _ (CR_of hC1 hL2) hM2 hk.1
theorem c1 (h0 : 0 ≤ i) (h1 : i + 5 < (L : Int)) (hC : CR σ S) (hM : MR σ S) (hS : SOK S) (hn : ∀ τ S', CR τ S' → MR τ S' → SOK S' → Wp (some (L, xs)) (d + 20) 204 1219 [.inr (.inr (.inr 1)), .inr (.inr (.inl 0)), .inr (.inr (.inl 71)), .inl i] [] τ Q) : Wp (some (L, xs)) (d + 20) 204 209 [.inr (.inr (.inr 1)), .inr (.inr (.inl 0)), .inr (.inr (.inl 71)), .inl i] [] σ Q := by
  have hk : KEEP (fLie S (xs (i + 1).toNat).toInt (xs (i + 2).toNat).toInt) := w1 hS
  simp (disch := omega) only [q204_209, q204_210, q204_211, q204_212, q204_213, q204_214, q204_215, q204_216, q204_217, q204_218, q204_219, q204_220, Nat.zero_add]
  refine CalK_E (o46 (d := d) hC hS (xs_in _) (xs_in _)) (fun r τ hP => ?_)
  obtain ⟨rfl, hC1, hL1⟩ := hP
  simp (disch := omega) only [q204_223, q204_224, q204_225, q204_226, q204_227, q204_228, q204_229, q204_230, q204_231, q204_232, q204_233, q204_234, Nat.zero_add, pushR_I, pushR_L]
  refine CalK_E (o141 (d := d) (MR_of hM hL1) hS (xs_in _) (xs_in _)) (fun r υ hP => ?_)
  obtain ⟨rfl, hM2, hL2⟩ := hP
  simp only [pushR_I, pushR_L]
  rw [q204_237 hk.2 hk.2, if_pos rfl]
  exact hn υ _ (CR_of hC1 hL2) hM2 hk.1
theorem c2 (h0 : 0 ≤ i) (h1 : i + 5 < (L : Int)) (hC : CR σ S) (hM : MR σ S) (hS : SOK S) (hn : ∀ τ S', CR τ S' → MR τ S' → SOK S' → Wp (some (L, xs)) (d + 20) 204 1219 [.inr (.inr (.inr 1)), .inr (.inr (.inl 0)), .inr (.inr (.inl 71)), .inl i] [] τ Q) : Wp (some (L, xs)) (d + 20) 204 242 [.inr (.inr (.inr 1)), .inr (.inr (.inl 0)), .inr (.inr (.inl 71)), .inl i] [] σ Q := by
  have hk : KEEP (fOven S (xs (i + 1).toNat).toInt) := w2 hS
  simp (disch := omega) only [q204_242, q204_243, q204_244, q204_245, q204_246, q204_247, q204_248, Nat.zero_add]
  refine CalK_E (o47 (d := d) hC hS (xs_in _)) (fun r τ hP => ?_)
  obtain ⟨rfl, hC1, hL1⟩ := hP
  simp (disch := omega) only [q204_251, q204_252, q204_253, q204_254, q204_255, q204_256, q204_257, Nat.zero_add, pushR_I, pushR_L]
  refine CalK_E (o142 (d := d) (MR_of hM hL1) hS (xs_in _)) (fun r υ hP => ?_)
  obtain ⟨rfl, hM2, hL2⟩ := hP
  simp only [pushR_I, pushR_L]
  rw [q204_260 hk.2 hk.2, if_pos rfl]
  exact hn υ _ (CR_of hC1 hL2) hM2 hk.1
theorem c3 (h0 : 0 ≤ i) (h1 : i + 5 < (L : Int)) (hC : CR σ S) (hM : MR σ S) (hS : SOK S) (hn : ∀ τ S', CR τ S' → MR τ S' → SOK S' → Wp (some (L, xs)) (d + 20) 204 1219 [.inr (.inr (.inr 1)), .inr (.inr (.inl 0)), .inr (.inr (.inl 71)), .inl i] [] τ Q) : Wp (some (L, xs)) (d + 20) 204 265 [.inr (.inr (.inr 1)), .inr (.inr (.inl 0)), .inr (.inr (.inl 71)), .inl i] [] σ Q := by
  have hk : KEEP (fType S (xs (i + 1).toNat).toInt) := w3 hS
  simp (disch := omega) only [q204_265, q204_266, q204_267, q204_268, q204_269, q204_270, q204_271, Nat.zero_add]
  refine CalK_E (o48 (d := d) hC hS (xs_in _)) (fun r τ hP => ?_)
  obtain ⟨rfl, hC1, hL1⟩ := hP
  simp (disch := omega) only [q204_274, q204_275, q204_276, q204_277, q204_278, q204_279, q204_280, Nat.zero_add, pushR_I, pushR_L]
  refine CalK_E (o143 (d := d) (MR_of hM hL1) hS (xs_in _)) (fun r υ hP => ?_)
  obtain ⟨rfl, hM2, hL2⟩ := hP
  simp only [pushR_I, pushR_L]
  rw [q204_283 hk.2 hk.2, if_pos rfl]
  exact hn υ _ (CR_of hC1 hL2) hM2 hk.1
theorem c4 (h0 : 0 ≤ i) (h1 : i + 5 < (L : Int)) (hC : CR σ S) (hM : MR σ S) (hS : SOK S) (hn : ∀ τ S', CR τ S' → MR τ S' → SOK S' → Wp (some (L, xs)) (d + 20) 204 1219 [.inr (.inr (.inr 1)), .inr (.inr (.inl 0)), .inr (.inr (.inl 71)), .inl i] [] τ Q) : Wp (some (L, xs)) (d + 20) 204 288 [.inr (.inr (.inr 1)), .inr (.inr (.inl 0)), .inr (.inr (.inl 71)), .inl i] [] σ Q := by
  have hk : KEEP (fClear S) := w4 hS
  simp (disch := omega) only [q204_288, q204_289, Nat.zero_add]
  refine CalK_E (o49 (d := d) hC hS) (fun r τ hP => ?_)
  obtain ⟨rfl, hC1, hL1⟩ := hP
  simp (disch := omega) only [q204_292, q204_293, Nat.zero_add, pushR_I, pushR_L]
  refine CalK_E (o144 (d := d) (MR_of hM hL1) hS) (fun r υ hP => ?_)
  obtain ⟨rfl, hM2, hL2⟩ := hP
  simp only [pushR_I, pushR_L]
  rw [q204_296 hk.2 hk.2, if_pos rfl]
  exact hn υ _ (CR_of hC1 hL2) hM2 hk.1
theorem c5 (h0 : 0 ≤ i) (h1 : i + 5 < (L : Int)) (hC : CR σ S) (hM : MR σ S) (hS : SOK S) (hn : ∀ τ S', CR τ S' → MR τ S' → SOK S' → Wp (some (L, xs)) (d + 20) 204 1219 [.inr (.inr (.inr 1)), .inr (.inr (.inl 0)), .inr (.inr (.inl 71)), .inl i] [] τ Q) : Wp (some (L, xs)) (d + 20) 204 301 [.inr (.inr (.inr 1)), .inr (.inr (.inl 0)), .inr (.inr (.inl 71)), .inl i] [] σ Q := by
  have hk : KEEP (fRead S) := w5 hS
  simp (disch := omega) only [q204_301, q204_302, Nat.zero_add]
  refine CalK_E (o50 (d := d) hC hS) (fun r τ hP => ?_)
  obtain ⟨rfl, hC1, hL1⟩ := hP
  simp (disch := omega) only [q204_305, q204_306, Nat.zero_add, pushR_I, pushR_L]
  refine CalK_E (o156 (d := d) (MR_of hM hL1) hS) (fun r υ hP => ?_)
  obtain ⟨rfl, hM2, hL2⟩ := hP
  simp only [pushR_I, pushR_L]
  rw [q204_309 hk.2 hk.2, if_pos rfl]
  exact hn υ _ (CR_of hC1 hL2) hM2 hk.1
theorem c6 (h0 : 0 ≤ i) (h1 : i + 5 < (L : Int)) (hC : CR σ S) (hM : MR σ S) (hS : SOK S) (hn : ∀ τ S', CR τ S' → MR τ S' → SOK S' → Wp (some (L, xs)) (d + 20) 204 1219 [.inr (.inr (.inr 1)), .inr (.inr (.inl 0)), .inr (.inr (.inl 71)), .inl i] [] τ Q) : Wp (some (L, xs)) (d + 20) 204 314 [.inr (.inr (.inr 1)), .inr (.inr (.inl 0)), .inr (.inr (.inl 71)), .inl i] [] σ Q := by
  have hk : KEEP (fDays S (xs (i + 1).toNat).toInt) := w6 hS
  simp (disch := omega) only [q204_314, q204_315, q204_316, q204_317, q204_318, q204_319, q204_320, Nat.zero_add]
  refine CalK_E (o51 (d := d) hC hS (xs_in _)) (fun r τ hP => ?_)
  obtain ⟨rfl, hC1, hL1⟩ := hP
  simp (disch := omega) only [q204_323, q204_324, q204_325, q204_326, q204_327, q204_328, q204_329, Nat.zero_add, pushR_I, pushR_L]
  refine CalK_E (o158 (d := d) (MR_of hM hL1) hS (xs_in _)) (fun r υ hP => ?_)
  obtain ⟨rfl, hM2, hL2⟩ := hP
  simp only [pushR_I, pushR_L]
  rw [q204_332 hk.2 hk.2, if_pos rfl]
  exact hn υ _ (CR_of hC1 hL2) hM2 hk.1
theorem c7 (h0 : 0 ≤ i) (h1 : i + 5 < (L : Int)) (hC : CR σ S) (hM : MR σ S) (hS : SOK S) (hn : ∀ τ S', CR τ S' → MR τ S' → SOK S' → Wp (some (L, xs)) (d + 20) 204 1219 [.inr (.inr (.inr 1)), .inr (.inr (.inl 0)), .inr (.inr (.inl 71)), .inl i] [] τ Q) : Wp (some (L, xs)) (d + 20) 204 337 [.inr (.inr (.inr 1)), .inr (.inr (.inl 0)), .inr (.inr (.inl 71)), .inl i] [] σ Q := by
  have hk : KEEP (fSays S (xs (i + 1).toNat).toInt (xs (i + 2).toNat).toInt) := w7 hS
  simp (disch := omega) only [q204_337, q204_338, q204_339, q204_340, q204_341, q204_342, q204_343, q204_344, q204_345, q204_346, q204_347, q204_348, Nat.zero_add]
  refine CalK_E (o52 (d := d) hC hS (xs_in _) (xs_in _)) (fun r τ hP => ?_)
  obtain ⟨rfl, hC1, hL1⟩ := hP
  simp (disch := omega) only [q204_351, q204_352, q204_353, q204_354, q204_355, q204_356, q204_357, q204_358, q204_359, q204_360, q204_361, q204_362, Nat.zero_add, pushR_I, pushR_L]
  refine CalK_E (o159 (d := d) (MR_of hM hL1) hS (xs_in _) (xs_in _)) (fun r υ hP => ?_)
  obtain ⟨rfl, hM2, hL2⟩ := hP
  simp only [pushR_I, pushR_L]
  rw [q204_365 hk.2 hk.2, if_pos rfl]
  exact hn υ _ (CR_of hC1 hL2) hM2 hk.1
theorem c8 (h0 : 0 ≤ i) (h1 : i + 5 < (L : Int)) (hC : CR σ S) (hM : MR σ S) (hS : SOK S) (hn : ∀ τ S', CR τ S' → MR τ S' → SOK S' → Wp (some (L, xs)) (d + 20) 204 1219 [.inr (.inr (.inr 1)), .inr (.inr (.inl 0)), .inr (.inr (.inl 71)), .inl i] [] τ Q) : Wp (some (L, xs)) (d + 20) 204 370 [.inr (.inr (.inr 1)), .inr (.inr (.inl 0)), .inr (.inr (.inl 71)), .inl i] [] σ Q := by
  have hk : KEEP (fForgets S (xs (i + 1).toNat).toInt) := w8 hS
  simp (disch := omega) only [q204_370, q204_371, q204_372, q204_373, q204_374, q204_375, q204_376, Nat.zero_add]
  refine CalK_E (o53 (d := d) hC hS (xs_in _)) (fun r τ hP => ?_)
  obtain ⟨rfl, hC1, hL1⟩ := hP
  simp (disch := omega) only [q204_379, q204_380, q204_381, q204_382, q204_383, q204_384, q204_385, Nat.zero_add, pushR_I, pushR_L]
  refine CalK_E (o160 (d := d) (MR_of hM hL1) hS (xs_in _)) (fun r υ hP => ?_)
  obtain ⟨rfl, hM2, hL2⟩ := hP
  simp only [pushR_I, pushR_L]
  rw [q204_388 hk.2 hk.2, if_pos rfl]
  exact hn υ _ (CR_of hC1 hL2) hM2 hk.1
theorem c9 (h0 : 0 ≤ i) (h1 : i + 5 < (L : Int)) (hC : CR σ S) (hM : MR σ S) (hS : SOK S) (hn : ∀ τ S', CR τ S' → MR τ S' → SOK S' → Wp (some (L, xs)) (d + 20) 204 1219 [.inr (.inr (.inr 1)), .inr (.inr (.inl 0)), .inr (.inr (.inl 71)), .inl i] [] τ Q) : Wp (some (L, xs)) (d + 20) 204 393 [.inr (.inr (.inr 1)), .inr (.inr (.inl 0)), .inr (.inr (.inl 71)), .inl i] [] σ Q := by
  have hk : KEEP (fUndo S) := w9 hS
  simp (disch := omega) only [q204_393, q204_394, Nat.zero_add]
  refine CalK_E (o54 (d := d) hC hS) (fun r τ hP => ?_)
  obtain ⟨rfl, hC1, hL1⟩ := hP
  simp (disch := omega) only [q204_397, q204_398, Nat.zero_add, pushR_I, pushR_L]
  refine CalK_E (o161 (d := d) (MR_of hM hL1) hS) (fun r υ hP => ?_)
  obtain ⟨rfl, hM2, hL2⟩ := hP
  simp only [pushR_I, pushR_L]
  rw [q204_401 hk.2 hk.2, if_pos rfl]
  exact hn υ _ (CR_of hC1 hL2) hM2 hk.1
theorem c10 (h0 : 0 ≤ i) (h1 : i + 5 < (L : Int)) (hC : CR σ S) (hM : MR σ S) (hS : SOK S) (hn : ∀ τ S', CR τ S' → MR τ S' → SOK S' → Wp (some (L, xs)) (d + 20) 204 1219 [.inr (.inr (.inr 1)), .inr (.inr (.inl 0)), .inr (.inr (.inl 71)), .inl i] [] τ Q) : Wp (some (L, xs)) (d + 20) 204 406 [.inr (.inr (.inr 1)), .inr (.inr (.inl 0)), .inr (.inr (.inl 71)), .inl i] [] σ Q := by
  have hk : KEEP (fOf S (xs (i + 1).toNat).toInt (xs (i + 2).toNat).toInt) := w10 hS
  simp (disch := omega) only [q204_406, q204_407, q204_408, q204_409, q204_410, q204_411, q204_412, q204_413, q204_414, q204_415, q204_416, q204_417, Nat.zero_add]
  refine CalK_E (o55 (d := d) hC hS (xs_in _) (xs_in _)) (fun r τ hP => ?_)
  obtain ⟨rfl, hC1, hL1⟩ := hP
  simp (disch := omega) only [q204_420, q204_421, q204_422, q204_423, q204_424, q204_425, q204_426, q204_427, q204_428, q204_429, q204_430, q204_431, Nat.zero_add, pushR_I, pushR_L]
  refine CalK_E (o162 (d := d) (MR_of hM hL1) hS (xs_in _) (xs_in _)) (fun r υ hP => ?_)
  obtain ⟨rfl, hM2, hL2⟩ := hP
  simp only [pushR_I, pushR_L]
  rw [q204_434 hk.2 hk.2, if_pos rfl]
  exact hn υ _ (CR_of hC1 hL2) hM2 hk.1
theorem c11 (h0 : 0 ≤ i) (h1 : i + 5 < (L : Int)) (hC : CR σ S) (hM : MR σ S) (hS : SOK S) (hn : ∀ τ S', CR τ S' → MR τ S' → SOK S' → Wp (some (L, xs)) (d + 20) 204 1219 [.inr (.inr (.inr 1)), .inr (.inr (.inl 0)), .inr (.inr (.inl 71)), .inl i] [] τ Q) : Wp (some (L, xs)) (d + 20) 204 439 [.inr (.inr (.inr 1)), .inr (.inr (.inl 0)), .inr (.inr (.inl 71)), .inl i] [] σ Q := by
  have hk : KEEP (fAbout S (xs (i + 1).toNat).toInt (xs (i + 2).toNat).toInt) := w11 hS
  simp (disch := omega) only [q204_439, q204_440, q204_441, q204_442, q204_443, q204_444, q204_445, q204_446, q204_447, q204_448, q204_449, q204_450, Nat.zero_add]
  refine CalK_E (o56 (d := d) hC hS (xs_in _) (xs_in _)) (fun r τ hP => ?_)
  obtain ⟨rfl, hC1, hL1⟩ := hP
  simp (disch := omega) only [q204_453, q204_454, q204_455, q204_456, q204_457, q204_458, q204_459, q204_460, q204_461, q204_462, q204_463, q204_464, Nat.zero_add, pushR_I, pushR_L]
  refine CalK_E (o163 (d := d) (MR_of hM hL1) hS (xs_in _) (xs_in _)) (fun r υ hP => ?_)
  obtain ⟨rfl, hM2, hL2⟩ := hP
  simp only [pushR_I, pushR_L]
  rw [q204_467 hk.2 hk.2, if_pos rfl]
  exact hn υ _ (CR_of hC1 hL2) hM2 hk.1
theorem c12 (h0 : 0 ≤ i) (h1 : i + 5 < (L : Int)) (hC : CR σ S) (hM : MR σ S) (hS : SOK S) (hn : ∀ τ S', CR τ S' → MR τ S' → SOK S' → Wp (some (L, xs)) (d + 20) 204 1219 [.inr (.inr (.inr 1)), .inr (.inr (.inl 0)), .inr (.inr (.inl 71)), .inl i] [] τ Q) : Wp (some (L, xs)) (d + 20) 204 472 [.inr (.inr (.inr 1)), .inr (.inr (.inl 0)), .inr (.inr (.inl 71)), .inl i] [] σ Q := by
  have hk : KEEP (fTakes S (xs (i + 1).toNat).toInt (xs (i + 2).toNat).toInt) := w12 hS
  simp (disch := omega) only [q204_472, q204_473, q204_474, q204_475, q204_476, q204_477, q204_478, q204_479, q204_480, q204_481, q204_482, q204_483, Nat.zero_add]
  refine CalK_E (o57 (d := d) hC hS (xs_in _) (xs_in _)) (fun r τ hP => ?_)
  obtain ⟨rfl, hC1, hL1⟩ := hP
  simp (disch := omega) only [q204_486, q204_487, q204_488, q204_489, q204_490, q204_491, q204_492, q204_493, q204_494, q204_495, q204_496, q204_497, Nat.zero_add, pushR_I, pushR_L]
  refine CalK_E (o164 (d := d) (MR_of hM hL1) hS (xs_in _) (xs_in _)) (fun r υ hP => ?_)
  obtain ⟨rfl, hM2, hL2⟩ := hP
  simp only [pushR_I, pushR_L]
  rw [q204_500 hk.2 hk.2, if_pos rfl]
  exact hn υ _ (CR_of hC1 hL2) hM2 hk.1
theorem c13 (h0 : 0 ≤ i) (h1 : i + 5 < (L : Int)) (hC : CR σ S) (hM : MR σ S) (hS : SOK S) (hn : ∀ τ S', CR τ S' → MR τ S' → SOK S' → Wp (some (L, xs)) (d + 20) 204 1219 [.inr (.inr (.inr 1)), .inr (.inr (.inl 0)), .inr (.inr (.inl 71)), .inl i] [] τ Q) : Wp (some (L, xs)) (d + 20) 204 505 [.inr (.inr (.inr 1)), .inr (.inr (.inl 0)), .inr (.inr (.inl 71)), .inl i] [] σ Q := by
  have hk : KEEP (fThen S (xs (i + 1).toNat).toInt (xs (i + 2).toNat).toInt) := w13 hS
  simp (disch := omega) only [q204_505, q204_506, q204_507, q204_508, q204_509, q204_510, q204_511, q204_512, q204_513, q204_514, q204_515, q204_516, Nat.zero_add]
  refine CalK_E (o58 (d := d) hC hS (xs_in _) (xs_in _)) (fun r τ hP => ?_)
  obtain ⟨rfl, hC1, hL1⟩ := hP
  simp (disch := omega) only [q204_519, q204_520, q204_521, q204_522, q204_523, q204_524, q204_525, q204_526, q204_527, q204_528, q204_529, q204_530, Nat.zero_add, pushR_I, pushR_L]
  refine CalK_E (o165 (d := d) (MR_of hM hL1) hS (xs_in _) (xs_in _)) (fun r υ hP => ?_)
  obtain ⟨rfl, hM2, hL2⟩ := hP
  simp only [pushR_I, pushR_L]
  rw [q204_533 hk.2 hk.2, if_pos rfl]
  exact hn υ _ (CR_of hC1 hL2) hM2 hk.1
theorem c14 (h0 : 0 ≤ i) (h1 : i + 5 < (L : Int)) (hC : CR σ S) (hM : MR σ S) (hS : SOK S) (hn : ∀ τ S', CR τ S' → MR τ S' → SOK S' → Wp (some (L, xs)) (d + 20) 204 1219 [.inr (.inr (.inr 1)), .inr (.inr (.inl 0)), .inr (.inr (.inl 71)), .inl i] [] τ Q) : Wp (some (L, xs)) (d + 20) 204 538 [.inr (.inr (.inr 1)), .inr (.inr (.inl 0)), .inr (.inr (.inl 71)), .inl i] [] σ Q := by
  have hk : KEEP (fCold S (xs (i + 1).toNat).toInt) := w14 hS
  simp (disch := omega) only [q204_538, q204_539, q204_540, q204_541, q204_542, q204_543, q204_544, Nat.zero_add]
  refine CalK_E (o59 (d := d) hC hS (xs_in _)) (fun r τ hP => ?_)
  obtain ⟨rfl, hC1, hL1⟩ := hP
  simp (disch := omega) only [q204_547, q204_548, q204_549, q204_550, q204_551, q204_552, q204_553, Nat.zero_add, pushR_I, pushR_L]
  refine CalK_E (o166 (d := d) (MR_of hM hL1) hS (xs_in _)) (fun r υ hP => ?_)
  obtain ⟨rfl, hM2, hL2⟩ := hP
  simp only [pushR_I, pushR_L]
  rw [q204_556 hk.2 hk.2, if_pos rfl]
  exact hn υ _ (CR_of hC1 hL2) hM2 hk.1
theorem c15 (h0 : 0 ≤ i) (h1 : i + 5 < (L : Int)) (hC : CR σ S) (hM : MR σ S) (hS : SOK S) (hn : ∀ τ S', CR τ S' → MR τ S' → SOK S' → Wp (some (L, xs)) (d + 20) 204 1219 [.inr (.inr (.inr 1)), .inr (.inr (.inl 0)), .inr (.inr (.inl 71)), .inl i] [] τ Q) : Wp (some (L, xs)) (d + 20) 204 561 [.inr (.inr (.inr 1)), .inr (.inr (.inl 0)), .inr (.inr (.inl 71)), .inl i] [] σ Q := by
  have hk : KEEP (fFew S (xs (i + 1).toNat).toInt (xs (i + 2).toNat).toInt) := w15 hC hS
  simp (disch := omega) only [q204_561, q204_562, q204_563, q204_564, q204_565, q204_566, q204_567, q204_568, q204_569, q204_570, q204_571, q204_572, Nat.zero_add]
  refine CalK_E (o60 (d := d) hC hS (xs_in _) (xs_in _)) (fun r τ hP => ?_)
  obtain ⟨rfl, hC1, hL1⟩ := hP
  simp (disch := omega) only [q204_575, q204_576, q204_577, q204_578, q204_579, q204_580, q204_581, q204_582, q204_583, q204_584, q204_585, q204_586, Nat.zero_add, pushR_I, pushR_L]
  refine CalK_E (o169 (d := d) (MR_of hM hL1) hS (xs_in _) (xs_in _)) (fun r υ hP => ?_)
  obtain ⟨rfl, hM2, hL2⟩ := hP
  simp only [pushR_I, pushR_L]
  rw [q204_589 hk.2 hk.2, if_pos rfl]
  exact hn υ _ (CR_of hC1 hL2) hM2 hk.1
theorem c16 (h0 : 0 ≤ i) (h1 : i + 5 < (L : Int)) (hC : CR σ S) (hM : MR σ S) (hS : SOK S) (hn : ∀ τ S', CR τ S' → MR τ S' → SOK S' → Wp (some (L, xs)) (d + 20) 204 1219 [.inr (.inr (.inr 1)), .inr (.inr (.inl 0)), .inr (.inr (.inl 71)), .inl i] [] τ Q) : Wp (some (L, xs)) (d + 20) 204 594 [.inr (.inr (.inr 1)), .inr (.inr (.inl 0)), .inr (.inr (.inl 71)), .inl i] [] σ Q := by
  have hk : KEEP (fRound S (xs (i + 1).toNat).toInt) := w16 hC hS
  simp (disch := omega) only [q204_594, q204_595, q204_596, q204_597, q204_598, q204_599, q204_600, Nat.zero_add]
  refine CalK_E (o61 (d := d) hC hS (xs_in _)) (fun r τ hP => ?_)
  obtain ⟨rfl, hC1, hL1⟩ := hP
  simp (disch := omega) only [q204_603, q204_604, q204_605, q204_606, q204_607, q204_608, q204_609, Nat.zero_add, pushR_I, pushR_L]
  refine CalK_E (o172 (d := d) (MR_of hM hL1) hS (xs_in _)) (fun r υ hP => ?_)
  obtain ⟨rfl, hM2, hL2⟩ := hP
  simp only [pushR_I, pushR_L]
  rw [q204_612 hk.2 hk.2, if_pos rfl]
  exact hn υ _ (CR_of hC1 hL2) hM2 hk.1
theorem c17 (h0 : 0 ≤ i) (h1 : i + 5 < (L : Int)) (hC : CR σ S) (hM : MR σ S) (hS : SOK S) (hn : ∀ τ S', CR τ S' → MR τ S' → SOK S' → Wp (some (L, xs)) (d + 20) 204 1219 [.inr (.inr (.inr 1)), .inr (.inr (.inl 0)), .inr (.inr (.inl 71)), .inl i] [] τ Q) : Wp (some (L, xs)) (d + 20) 204 617 [.inr (.inr (.inr 1)), .inr (.inr (.inl 0)), .inr (.inr (.inl 71)), .inl i] [] σ Q := by
  have hk : KEEP (fKeep S (xs (i + 1).toNat).toInt (xs (i + 2).toNat).toInt) := w17 hS
  simp (disch := omega) only [q204_617, q204_618, q204_619, q204_620, q204_621, q204_622, q204_623, q204_624, q204_625, q204_626, q204_627, q204_628, Nat.zero_add]
  refine CalK_E (o62 (d := d) hC hS (xs_in _) (xs_in _)) (fun r τ hP => ?_)
  obtain ⟨rfl, hC1, hL1⟩ := hP
  simp (disch := omega) only [q204_631, q204_632, q204_633, q204_634, q204_635, q204_636, q204_637, q204_638, q204_639, q204_640, q204_641, q204_642, Nat.zero_add, pushR_I, pushR_L]
  refine CalK_E (o173 (d := d) (MR_of hM hL1) hS (xs_in _) (xs_in _)) (fun r υ hP => ?_)
  obtain ⟨rfl, hM2, hL2⟩ := hP
  simp only [pushR_I, pushR_L]
  rw [q204_645 hk.2 hk.2, if_pos rfl]
  exact hn υ _ (CR_of hC1 hL2) hM2 hk.1
theorem c18 (h0 : 0 ≤ i) (h1 : i + 5 < (L : Int)) (hC : CR σ S) (hM : MR σ S) (hS : SOK S) (hn : ∀ τ S', CR τ S' → MR τ S' → SOK S' → Wp (some (L, xs)) (d + 20) 204 1219 [.inr (.inr (.inr 1)), .inr (.inr (.inl 0)), .inr (.inr (.inl 71)), .inl i] [] τ Q) : Wp (some (L, xs)) (d + 20) 204 650 [.inr (.inr (.inr 1)), .inr (.inr (.inl 0)), .inr (.inr (.inl 71)), .inl i] [] σ Q := by
  have hk : KEEP (fSeen S (xs (i + 1).toNat).toInt (xs (i + 2).toNat).toInt (xs (i + 3).toNat).toInt (xs (i + 4).toNat).toInt (xs (i + 5).toNat).toInt) := w18 hS
  simp (disch := omega) only [q204_650, q204_651, q204_652, q204_653, q204_654, q204_655, q204_656, q204_657, q204_658, q204_659, q204_660, q204_661, q204_662, q204_663, q204_664, q204_665, q204_666, q204_667, q204_668, q204_669, q204_670, q204_671, q204_672, q204_673, q204_674, q204_675, q204_676, Nat.zero_add]
  refine CalK_E (o63 (d := d) hC hS (xs_in _) (xs_in _) (xs_in _) (xs_in _) (xs_in _)) (fun r τ hP => ?_)
  obtain ⟨rfl, hC1, hL1⟩ := hP
  simp (disch := omega) only [q204_679, q204_680, q204_681, q204_682, q204_683, q204_684, q204_685, q204_686, q204_687, q204_688, q204_689, q204_690, q204_691, q204_692, q204_693, q204_694, q204_695, q204_696, q204_697, q204_698, q204_699, q204_700, q204_701, q204_702, q204_703, q204_704, q204_705, Nat.zero_add, pushR_I, pushR_L]
  refine CalK_E (o174 (d := d) (MR_of hM hL1) hS (xs_in _) (xs_in _) (xs_in _) (xs_in _) (xs_in _)) (fun r υ hP => ?_)
  obtain ⟨rfl, hM2, hL2⟩ := hP
  simp only [pushR_I, pushR_L]
  rw [q204_708 hk.2 hk.2, if_pos rfl]
  exact hn υ _ (CR_of hC1 hL2) hM2 hk.1
theorem c19 (h0 : 0 ≤ i) (h1 : i + 5 < (L : Int)) (hC : CR σ S) (hM : MR σ S) (hS : SOK S) (hn : ∀ τ S', CR τ S' → MR τ S' → SOK S' → Wp (some (L, xs)) (d + 20) 204 1219 [.inr (.inr (.inr 1)), .inr (.inr (.inl 0)), .inr (.inr (.inl 71)), .inl i] [] τ Q) : Wp (some (L, xs)) (d + 20) 204 713 [.inr (.inr (.inr 1)), .inr (.inr (.inl 0)), .inr (.inr (.inl 71)), .inl i] [] σ Q := by
  have hk : KEEP (fWhich S) := w19 hS
  simp (disch := omega) only [q204_713, q204_714, Nat.zero_add]
  refine CalK_E (o64 (d := d) hC hS) (fun r τ hP => ?_)
  obtain ⟨rfl, hC1, hL1⟩ := hP
  simp (disch := omega) only [q204_717, q204_718, Nat.zero_add, pushR_I, pushR_L]
  refine CalK_E (o176 (d := d) (MR_of hM hL1) hS) (fun r υ hP => ?_)
  obtain ⟨rfl, hM2, hL2⟩ := hP
  simp only [pushR_I, pushR_L]
  rw [q204_721 hk.2 hk.2, if_pos rfl]
  exact hn υ _ (CR_of hC1 hL2) hM2 hk.1
theorem c20 (h0 : 0 ≤ i) (h1 : i + 5 < (L : Int)) (hC : CR σ S) (hM : MR σ S) (hS : SOK S) (hn : ∀ τ S', CR τ S' → MR τ S' → SOK S' → Wp (some (L, xs)) (d + 20) 204 1219 [.inr (.inr (.inr 1)), .inr (.inr (.inl 0)), .inr (.inr (.inl 71)), .inl i] [] τ Q) : Wp (some (L, xs)) (d + 20) 204 726 [.inr (.inr (.inr 1)), .inr (.inr (.inl 0)), .inr (.inr (.inl 71)), .inl i] [] σ Q := by
  have hk : KEEP (fTell S (xs (i + 1).toNat).toInt) := w20 hS
  simp (disch := omega) only [q204_726, q204_727, q204_728, q204_729, q204_730, q204_731, q204_732, Nat.zero_add]
  refine CalK_E (o65 (d := d) hC hS (xs_in _)) (fun r τ hP => ?_)
  obtain ⟨rfl, hC1, hL1⟩ := hP
  simp (disch := omega) only [q204_735, q204_736, q204_737, q204_738, q204_739, q204_740, q204_741, Nat.zero_add, pushR_I, pushR_L]
  refine CalK_E (o179 (d := d) (MR_of hM hL1) hS (xs_in _)) (fun r υ hP => ?_)
  obtain ⟨rfl, hM2, hL2⟩ := hP
  simp only [pushR_I, pushR_L]
  rw [q204_744 hk.2 hk.2, if_pos rfl]
  exact hn υ _ (CR_of hC1 hL2) hM2 hk.1
theorem c21 (h0 : 0 ≤ i) (h1 : i + 5 < (L : Int)) (hC : CR σ S) (hM : MR σ S) (hS : SOK S) (hn : ∀ τ S', CR τ S' → MR τ S' → SOK S' → Wp (some (L, xs)) (d + 20) 204 1219 [.inr (.inr (.inr 1)), .inr (.inr (.inl 0)), .inr (.inr (.inl 71)), .inl i] [] τ Q) : Wp (some (L, xs)) (d + 20) 204 749 [.inr (.inr (.inr 1)), .inr (.inr (.inl 0)), .inr (.inr (.inl 71)), .inl i] [] σ Q := by
  have hk : KEEP (fNote S (xs (i + 1).toNat).toInt (xs (i + 2).toNat).toInt (xs (i + 3).toNat).toInt (xs (i + 4).toNat).toInt (xs (i + 5).toNat).toInt) := w21 hS
  simp (disch := omega) only [q204_749, q204_750, q204_751, q204_752, q204_753, q204_754, q204_755, q204_756, q204_757, q204_758, q204_759, q204_760, q204_761, q204_762, q204_763, q204_764, q204_765, q204_766, q204_767, q204_768, q204_769, q204_770, q204_771, q204_772, q204_773, q204_774, q204_775, Nat.zero_add]
  refine CalK_E (o66 (d := d) hC hS (xs_in _) (xs_in _) (xs_in _) (xs_in _) (xs_in _)) (fun r τ hP => ?_)
  obtain ⟨rfl, hC1, hL1⟩ := hP
  simp (disch := omega) only [q204_778, q204_779, q204_780, q204_781, q204_782, q204_783, q204_784, q204_785, q204_786, q204_787, q204_788, q204_789, q204_790, q204_791, q204_792, q204_793, q204_794, q204_795, q204_796, q204_797, q204_798, q204_799, q204_800, q204_801, q204_802, q204_803, q204_804, Nat.zero_add, pushR_I, pushR_L]
  refine CalK_E (o180 (d := d) (MR_of hM hL1) hS (xs_in _) (xs_in _) (xs_in _) (xs_in _) (xs_in _)) (fun r υ hP => ?_)
  obtain ⟨rfl, hM2, hL2⟩ := hP
  simp only [pushR_I, pushR_L]
  rw [q204_807 hk.2 hk.2, if_pos rfl]
  exact hn υ _ (CR_of hC1 hL2) hM2 hk.1
theorem c22 (h0 : 0 ≤ i) (h1 : i + 5 < (L : Int)) (hC : CR σ S) (hM : MR σ S) (hS : SOK S) (hn : ∀ τ S', CR τ S' → MR τ S' → SOK S' → Wp (some (L, xs)) (d + 20) 204 1219 [.inr (.inr (.inr 1)), .inr (.inr (.inl 0)), .inr (.inr (.inl 71)), .inl i] [] τ Q) : Wp (some (L, xs)) (d + 20) 204 812 [.inr (.inr (.inr 1)), .inr (.inr (.inl 0)), .inr (.inr (.inl 71)), .inl i] [] σ Q := by
  have hk : KEEP (fMark S (xs (i + 1).toNat).toInt (xs (i + 2).toNat).toInt (xs (i + 3).toNat).toInt (xs (i + 4).toNat).toInt) := w22 hS
  simp (disch := omega) only [q204_812, q204_813, q204_814, q204_815, q204_816, q204_817, q204_818, q204_819, q204_820, q204_821, q204_822, q204_823, q204_824, q204_825, q204_826, q204_827, q204_828, q204_829, q204_830, q204_831, q204_832, q204_833, Nat.zero_add]
  refine CalK_E (o67 (d := d) hC hS (xs_in _) (xs_in _) (xs_in _) (xs_in _)) (fun r τ hP => ?_)
  obtain ⟨rfl, hC1, hL1⟩ := hP
  simp (disch := omega) only [q204_836, q204_837, q204_838, q204_839, q204_840, q204_841, q204_842, q204_843, q204_844, q204_845, q204_846, q204_847, q204_848, q204_849, q204_850, q204_851, q204_852, q204_853, q204_854, q204_855, q204_856, q204_857, Nat.zero_add, pushR_I, pushR_L]
  refine CalK_E (o181 (d := d) (MR_of hM hL1) hS (xs_in _) (xs_in _) (xs_in _) (xs_in _)) (fun r υ hP => ?_)
  obtain ⟨rfl, hM2, hL2⟩ := hP
  simp only [pushR_I, pushR_L]
  rw [q204_860 hk.2 hk.2, if_pos rfl]
  exact hn υ _ (CR_of hC1 hL2) hM2 hk.1
theorem c23 (h0 : 0 ≤ i) (h1 : i + 5 < (L : Int)) (hC : CR σ S) (hM : MR σ S) (hS : SOK S) (hn : ∀ τ S', CR τ S' → MR τ S' → SOK S' → Wp (some (L, xs)) (d + 20) 204 1219 [.inr (.inr (.inr 1)), .inr (.inr (.inl 0)), .inr (.inr (.inl 71)), .inl i] [] τ Q) : Wp (some (L, xs)) (d + 20) 204 865 [.inr (.inr (.inr 1)), .inr (.inr (.inl 0)), .inr (.inr (.inl 71)), .inl i] [] σ Q := by
  have hk : KEEP (fForget S (xs (i + 1).toNat).toInt) := w23 hS
  simp (disch := omega) only [q204_865, q204_866, q204_867, q204_868, q204_869, q204_870, q204_871, Nat.zero_add]
  refine CalK_E (o68 (d := d) hC hS (xs_in _)) (fun r τ hP => ?_)
  obtain ⟨rfl, hC1, hL1⟩ := hP
  simp (disch := omega) only [q204_874, q204_875, q204_876, q204_877, q204_878, q204_879, q204_880, Nat.zero_add, pushR_I, pushR_L]
  refine CalK_E (o182 (d := d) (MR_of hM hL1) hS (xs_in _)) (fun r υ hP => ?_)
  obtain ⟨rfl, hM2, hL2⟩ := hP
  simp only [pushR_I, pushR_L]
  rw [q204_883 hk.2 hk.2, if_pos rfl]
  exact hn υ _ (CR_of hC1 hL2) hM2 hk.1
theorem c24 (h0 : 0 ≤ i) (h1 : i + 5 < (L : Int)) (hC : CR σ S) (hM : MR σ S) (hS : SOK S) (hn : ∀ τ S', CR τ S' → MR τ S' → SOK S' → Wp (some (L, xs)) (d + 20) 204 1219 [.inr (.inr (.inr 1)), .inr (.inr (.inl 0)), .inr (.inr (.inl 71)), .inl i] [] τ Q) : Wp (some (L, xs)) (d + 20) 204 888 [.inr (.inr (.inr 1)), .inr (.inr (.inl 0)), .inr (.inr (.inl 71)), .inl i] [] σ Q := by
  have hk : KEEP (fIs S (xs (i + 1).toNat).toInt) := w24 hS
  simp (disch := omega) only [q204_888, q204_889, q204_890, q204_891, q204_892, q204_893, q204_894, Nat.zero_add]
  refine CalK_E (o69 (d := d) hC hS (xs_in _)) (fun r τ hP => ?_)
  obtain ⟨rfl, hC1, hL1⟩ := hP
  simp (disch := omega) only [q204_897, q204_898, q204_899, q204_900, q204_901, q204_902, q204_903, Nat.zero_add, pushR_I, pushR_L]
  refine CalK_E (o184 (d := d) (MR_of hM hL1) hS (xs_in _)) (fun r υ hP => ?_)
  obtain ⟨rfl, hM2, hL2⟩ := hP
  simp only [pushR_I, pushR_L]
  rw [q204_906 hk.2 hk.2, if_pos rfl]
  exact hn υ _ (CR_of hC1 hL2) hM2 hk.1
theorem c25 (h0 : 0 ≤ i) (h1 : i + 5 < (L : Int)) (hC : CR σ S) (hM : MR σ S) (hS : SOK S) (hn : ∀ τ S', CR τ S' → MR τ S' → SOK S' → Wp (some (L, xs)) (d + 20) 204 1219 [.inr (.inr (.inr 1)), .inr (.inr (.inl 0)), .inr (.inr (.inl 71)), .inl i] [] τ Q) : Wp (some (L, xs)) (d + 20) 204 911 [.inr (.inr (.inr 1)), .inr (.inr (.inl 0)), .inr (.inr (.inl 71)), .inl i] [] σ Q := by
  have hk : KEEP (fLook S (xs (i + 1).toNat).toInt) := w25 hS
  simp (disch := omega) only [q204_911, q204_912, q204_913, q204_914, q204_915, q204_916, q204_917, Nat.zero_add]
  refine CalK_E (o70 (d := d) hC hS (xs_in _)) (fun r τ hP => ?_)
  obtain ⟨rfl, hC1, hL1⟩ := hP
  simp (disch := omega) only [q204_920, q204_921, q204_922, q204_923, q204_924, q204_925, q204_926, Nat.zero_add, pushR_I, pushR_L]
  refine CalK_E (o185 (d := d) (MR_of hM hL1) hS (xs_in _)) (fun r υ hP => ?_)
  obtain ⟨rfl, hM2, hL2⟩ := hP
  simp only [pushR_I, pushR_L]
  rw [q204_929 hk.2 hk.2, if_pos rfl]
  exact hn υ _ (CR_of hC1 hL2) hM2 hk.1
theorem c26 (h0 : 0 ≤ i) (h1 : i + 5 < (L : Int)) (hC : CR σ S) (hM : MR σ S) (hS : SOK S) (hn : ∀ τ S', CR τ S' → MR τ S' → SOK S' → Wp (some (L, xs)) (d + 20) 204 1219 [.inr (.inr (.inr 1)), .inr (.inr (.inl 0)), .inr (.inr (.inl 71)), .inl i] [] τ Q) : Wp (some (L, xs)) (d + 20) 204 934 [.inr (.inr (.inr 1)), .inr (.inr (.inl 0)), .inr (.inr (.inl 71)), .inl i] [] σ Q := by
  have hk : KEEP (fKinds S (xs (i + 1).toNat).toInt) := w26 hS
  simp (disch := omega) only [q204_934, q204_935, q204_936, q204_937, q204_938, q204_939, q204_940, Nat.zero_add]
  refine CalK_E (o71 (d := d) hC hS (xs_in _)) (fun r τ hP => ?_)
  obtain ⟨rfl, hC1, hL1⟩ := hP
  simp (disch := omega) only [q204_943, q204_944, q204_945, q204_946, q204_947, q204_948, q204_949, Nat.zero_add, pushR_I, pushR_L]
  refine CalK_E (o187 (d := d) (MR_of hM hL1) hS (xs_in _)) (fun r υ hP => ?_)
  obtain ⟨rfl, hM2, hL2⟩ := hP
  simp only [pushR_I, pushR_L]
  rw [q204_952 hk.2 hk.2, if_pos rfl]
  exact hn υ _ (CR_of hC1 hL2) hM2 hk.1
theorem c27 (h0 : 0 ≤ i) (h1 : i + 5 < (L : Int)) (hC : CR σ S) (hM : MR σ S) (hS : SOK S) (hn : ∀ τ S', CR τ S' → MR τ S' → SOK S' → Wp (some (L, xs)) (d + 20) 204 1219 [.inr (.inr (.inr 1)), .inr (.inr (.inl 0)), .inr (.inr (.inl 71)), .inl i] [] τ Q) : Wp (some (L, xs)) (d + 20) 204 957 [.inr (.inr (.inr 1)), .inr (.inr (.inl 0)), .inr (.inr (.inl 71)), .inl i] [] σ Q := by
  have hk : KEEP (fAsk S (xs (i + 1).toNat).toInt) := w27 hS
  simp (disch := omega) only [q204_957, q204_958, q204_959, q204_960, q204_961, q204_962, q204_963, Nat.zero_add]
  refine CalK_E (o72 (d := d) hC hS (xs_in _)) (fun r τ hP => ?_)
  obtain ⟨rfl, hC1, hL1⟩ := hP
  simp (disch := omega) only [q204_966, q204_967, q204_968, q204_969, q204_970, q204_971, q204_972, Nat.zero_add, pushR_I, pushR_L]
  refine CalK_E (o188 (d := d) (MR_of hM hL1) hS (xs_in _)) (fun r υ hP => ?_)
  obtain ⟨rfl, hM2, hL2⟩ := hP
  simp only [pushR_I, pushR_L]
  rw [q204_975 hk.2 hk.2, if_pos rfl]
  exact hn υ _ (CR_of hC1 hL2) hM2 hk.1
theorem c28 (h0 : 0 ≤ i) (h1 : i + 5 < (L : Int)) (hC : CR σ S) (hM : MR σ S) (hS : SOK S) (hn : ∀ τ S', CR τ S' → MR τ S' → SOK S' → Wp (some (L, xs)) (d + 20) 204 1219 [.inr (.inr (.inr 1)), .inr (.inr (.inl 0)), .inr (.inr (.inl 71)), .inl i] [] τ Q) : Wp (some (L, xs)) (d + 20) 204 980 [.inr (.inr (.inr 1)), .inr (.inr (.inl 0)), .inr (.inr (.inl 71)), .inl i] [] σ Q := by
  have hk : KEEP (fArch S (xs (i + 1).toNat).toInt (xs (i + 2).toNat).toInt) := w28 hS
  simp (disch := omega) only [q204_980, q204_981, q204_982, q204_983, q204_984, q204_985, q204_986, q204_987, q204_988, q204_989, q204_990, q204_991, Nat.zero_add]
  refine CalK_E (o73 (d := d) hC hS (xs_in _) (xs_in _)) (fun r τ hP => ?_)
  obtain ⟨rfl, hC1, hL1⟩ := hP
  simp (disch := omega) only [q204_994, q204_995, q204_996, q204_997, q204_998, q204_999, q204_1000, q204_1001, q204_1002, q204_1003, q204_1004, q204_1005, Nat.zero_add, pushR_I, pushR_L]
  refine CalK_E (o191 (d := d) (MR_of hM hL1) hS (xs_in _) (xs_in _)) (fun r υ hP => ?_)
  obtain ⟨rfl, hM2, hL2⟩ := hP
  simp only [pushR_I, pushR_L]
  rw [q204_1008 hk.2 hk.2, if_pos rfl]
  exact hn υ _ (CR_of hC1 hL2) hM2 hk.1
theorem c29 (h0 : 0 ≤ i) (h1 : i + 5 < (L : Int)) (hC : CR σ S) (hM : MR σ S) (hS : SOK S) (hn : ∀ τ S', CR τ S' → MR τ S' → SOK S' → Wp (some (L, xs)) (d + 20) 204 1219 [.inr (.inr (.inr 1)), .inr (.inr (.inl 0)), .inr (.inr (.inl 71)), .inl i] [] τ Q) : Wp (some (L, xs)) (d + 20) 204 1013 [.inr (.inr (.inr 1)), .inr (.inr (.inl 0)), .inr (.inr (.inl 71)), .inl i] [] σ Q := by
  have hk : KEEP (fTrues S (xs (i + 1).toNat).toInt (xs (i + 2).toNat).toInt (xs (i + 3).toNat).toInt) := w29 hS
  simp (disch := omega) only [q204_1013, q204_1014, q204_1015, q204_1016, q204_1017, q204_1018, q204_1019, q204_1020, q204_1021, q204_1022, q204_1023, q204_1024, q204_1025, q204_1026, q204_1027, q204_1028, q204_1029, Nat.zero_add]
  refine CalK_E (o74 (d := d) hC hS (xs_in _) (xs_in _) (xs_in _)) (fun r τ hP => ?_)
  obtain ⟨rfl, hC1, hL1⟩ := hP
  simp (disch := omega) only [q204_1032, q204_1033, q204_1034, q204_1035, q204_1036, q204_1037, q204_1038, q204_1039, q204_1040, q204_1041, q204_1042, q204_1043, q204_1044, q204_1045, q204_1046, q204_1047, q204_1048, Nat.zero_add, pushR_I, pushR_L]
  refine CalK_E (o193 (d := d) (MR_of hM hL1) hS (xs_in _) (xs_in _) (xs_in _)) (fun r υ hP => ?_)
  obtain ⟨rfl, hM2, hL2⟩ := hP
  simp only [pushR_I, pushR_L]
  rw [q204_1051 hk.2 hk.2, if_pos rfl]
  exact hn υ _ (CR_of hC1 hL2) hM2 hk.1
theorem c30 (h0 : 0 ≤ i) (h1 : i + 5 < (L : Int)) (hC : CR σ S) (hM : MR σ S) (hS : SOK S) (hn : ∀ τ S', CR τ S' → MR τ S' → SOK S' → Wp (some (L, xs)) (d + 20) 204 1219 [.inr (.inr (.inr 1)), .inr (.inr (.inl 0)), .inr (.inr (.inl 71)), .inl i] [] τ Q) : Wp (some (L, xs)) (d + 20) 204 1056 [.inr (.inr (.inr 1)), .inr (.inr (.inl 0)), .inr (.inr (.inl 71)), .inl i] [] σ Q := by
  have hk : KEEP (fYears S (xs (i + 1).toNat).toInt (xs (i + 2).toNat).toInt) := w30 hS
  simp (disch := omega) only [q204_1056, q204_1057, q204_1058, q204_1059, q204_1060, q204_1061, q204_1062, q204_1063, q204_1064, q204_1065, q204_1066, q204_1067, Nat.zero_add]
  refine CalK_E (o75 (d := d) hC hS (xs_in _) (xs_in _)) (fun r τ hP => ?_)
  obtain ⟨rfl, hC1, hL1⟩ := hP
  simp (disch := omega) only [q204_1070, q204_1071, q204_1072, q204_1073, q204_1074, q204_1075, q204_1076, q204_1077, q204_1078, q204_1079, q204_1080, q204_1081, Nat.zero_add, pushR_I, pushR_L]
  refine CalK_E (o194 (d := d) (MR_of hM hL1) hS (xs_in _) (xs_in _)) (fun r υ hP => ?_)
  obtain ⟨rfl, hM2, hL2⟩ := hP
  simp only [pushR_I, pushR_L]
  rw [q204_1084 hk.2 hk.2, if_pos rfl]
  exact hn υ _ (CR_of hC1 hL2) hM2 hk.1
theorem c31 (h0 : 0 ≤ i) (h1 : i + 5 < (L : Int)) (hC : CR σ S) (hM : MR σ S) (hS : SOK S) (hn : ∀ τ S', CR τ S' → MR τ S' → SOK S' → Wp (some (L, xs)) (d + 20) 204 1219 [.inr (.inr (.inr 1)), .inr (.inr (.inl 0)), .inr (.inr (.inl 71)), .inl i] [] τ Q) : Wp (some (L, xs)) (d + 20) 204 1089 [.inr (.inr (.inr 1)), .inr (.inr (.inl 0)), .inr (.inr (.inl 71)), .inl i] [] σ Q := by
  have hk : SOK (fPart S (xs (i + 1).toNat).toInt).2 := w31 hS
  simp (disch := omega) only [q204_1089, q204_1090, q204_1091, q204_1092, q204_1093, q204_1094, q204_1095, Nat.zero_add]
  refine CalK_E (x76 (d := d) hC hS (xs_in _)) (fun r τ hP => ?_)
  obtain ⟨rfl, hC1, hL1⟩ := hP
  simp (disch := omega) only [q204_1098, q204_1099, q204_1100, q204_1101, q204_1102, q204_1103, q204_1104, Nat.zero_add, pushR_I, pushR_L]
  refine CalK_E (x195 (d := d) (MR_of hM hL1) hS (xs_in _)) (fun r υ hP => ?_)
  obtain ⟨rfl, hM2, hL2⟩ := hP
  simp only [pushR_I, pushR_L]
  rw [q204_1107 (Or.inl rfl), if_pos rfl, q204_1108 (by unfold InR; omega), if_pos rfl]
  exact hn υ _ (CR_of hC1 hL2) hM2 hk
theorem c32 (h0 : 0 ≤ i) (h1 : i + 5 < (L : Int)) (hC : CR σ S) (hM : MR σ S) (hS : SOK S) (hn : ∀ τ S', CR τ S' → MR τ S' → SOK S' → Wp (some (L, xs)) (d + 20) 204 1219 [.inr (.inr (.inr 1)), .inr (.inr (.inl 0)), .inr (.inr (.inl 71)), .inl i] [] τ Q) : Wp (some (L, xs)) (d + 20) 204 1113 [.inr (.inr (.inr 1)), .inr (.inr (.inl 0)), .inr (.inr (.inl 71)), .inl i] [] σ Q := by
  have hk : KEEP (fImage S (xs (i + 1).toNat).toInt) := w32 hS
  simp (disch := omega) only [q204_1113, q204_1114, q204_1115, q204_1116, q204_1117, q204_1118, q204_1119, Nat.zero_add]
  refine CalK_E (o77 (d := d) hC hS (xs_in _)) (fun r τ hP => ?_)
  obtain ⟨rfl, hC1, hL1⟩ := hP
  simp (disch := omega) only [q204_1122, q204_1123, q204_1124, q204_1125, q204_1126, q204_1127, q204_1128, Nat.zero_add, pushR_I, pushR_L]
  refine CalK_E (o196 (d := d) (MR_of hM hL1) hS (xs_in _)) (fun r υ hP => ?_)
  obtain ⟨rfl, hM2, hL2⟩ := hP
  simp only [pushR_I, pushR_L]
  rw [q204_1131 hk.2 hk.2, if_pos rfl]
  exact hn υ _ (CR_of hC1 hL2) hM2 hk.1
theorem c33 (h0 : 0 ≤ i) (h1 : i + 5 < (L : Int)) (hC : CR σ S) (hM : MR σ S) (hS : SOK S) (hn : ∀ τ S', CR τ S' → MR τ S' → SOK S' → Wp (some (L, xs)) (d + 20) 204 1219 [.inr (.inr (.inr 1)), .inr (.inr (.inl 0)), .inr (.inr (.inl 71)), .inl i] [] τ Q) : Wp (some (L, xs)) (d + 20) 204 1136 [.inr (.inr (.inr 1)), .inr (.inr (.inl 0)), .inr (.inr (.inl 71)), .inl i] [] σ Q := by
  have hk : KEEP (fFrom S (xs (i + 1).toNat).toInt) := w33 hS
  simp (disch := omega) only [q204_1136, q204_1137, q204_1138, q204_1139, q204_1140, q204_1141, q204_1142, Nat.zero_add]
  refine CalK_E (o78 (d := d) hC hS (xs_in _)) (fun r τ hP => ?_)
  obtain ⟨rfl, hC1, hL1⟩ := hP
  simp (disch := omega) only [q204_1145, q204_1146, q204_1147, q204_1148, q204_1149, q204_1150, q204_1151, Nat.zero_add, pushR_I, pushR_L]
  refine CalK_E (o197 (d := d) (MR_of hM hL1) hS (xs_in _)) (fun r υ hP => ?_)
  obtain ⟨rfl, hM2, hL2⟩ := hP
  simp only [pushR_I, pushR_L]
  rw [q204_1154 hk.2 hk.2, if_pos rfl]
  exact hn υ _ (CR_of hC1 hL2) hM2 hk.1
theorem c34 (h0 : 0 ≤ i) (h1 : i + 5 < (L : Int)) (hC : CR σ S) (hM : MR σ S) (hS : SOK S) (hn : ∀ τ S', CR τ S' → MR τ S' → SOK S' → Wp (some (L, xs)) (d + 20) 204 1219 [.inr (.inr (.inr 1)), .inr (.inr (.inl 0)), .inr (.inr (.inl 71)), .inl i] [] τ Q) : Wp (some (L, xs)) (d + 20) 204 1159 [.inr (.inr (.inr 1)), .inr (.inr (.inl 0)), .inr (.inr (.inl 71)), .inl i] [] σ Q := by
  have hk : KEEP (fStatus S (xs (i + 1).toNat).toInt) := w34 hC hS
  simp (disch := omega) only [q204_1159, q204_1160, q204_1161, q204_1162, q204_1163, q204_1164, q204_1165, Nat.zero_add]
  refine CalK_E (o79 (d := d) hC hS (xs_in _)) (fun r τ hP => ?_)
  obtain ⟨rfl, hC1, hL1⟩ := hP
  simp (disch := omega) only [q204_1168, q204_1169, q204_1170, q204_1171, q204_1172, q204_1173, q204_1174, Nat.zero_add, pushR_I, pushR_L]
  refine CalK_E (o198 (d := d) (MR_of hM hL1) hS (xs_in _)) (fun r υ hP => ?_)
  obtain ⟨rfl, hM2, hL2⟩ := hP
  simp only [pushR_I, pushR_L]
  rw [q204_1177 hk.2 hk.2, if_pos rfl]
  exact hn υ _ (CR_of hC1 hL2) hM2 hk.1
theorem c35 (h0 : 0 ≤ i) (h1 : i + 5 < (L : Int)) (hC : CR σ S) (hM : MR σ S) (hS : SOK S) (hn : ∀ τ S', CR τ S' → MR τ S' → SOK S' → Wp (some (L, xs)) (d + 20) 204 1219 [.inr (.inr (.inr 1)), .inr (.inr (.inl 0)), .inr (.inr (.inl 71)), .inl i] [] τ Q) : Wp (some (L, xs)) (d + 20) 204 1182 [.inr (.inr (.inr 1)), .inr (.inr (.inl 0)), .inr (.inr (.inl 71)), .inl i] [] σ Q := by
  have hk : KEEP (fCount S (xs (i + 1).toNat).toInt) := w35 hS
  simp (disch := omega) only [q204_1182, q204_1183, q204_1184, q204_1185, q204_1186, q204_1187, q204_1188, Nat.zero_add]
  refine CalK_E (o80 (d := d) hC hS (xs_in _)) (fun r τ hP => ?_)
  obtain ⟨rfl, hC1, hL1⟩ := hP
  simp (disch := omega) only [q204_1191, q204_1192, q204_1193, q204_1194, q204_1195, q204_1196, q204_1197, Nat.zero_add, pushR_I, pushR_L]
  refine CalK_E (o200 (d := d) (MR_of hM hL1) hS (xs_in _)) (fun r υ hP => ?_)
  obtain ⟨rfl, hM2, hL2⟩ := hP
  simp only [pushR_I, pushR_L]
  rw [q204_1200 hk.2 hk.2, if_pos rfl]
  exact hn υ _ (CR_of hC1 hL2) hM2 hk.1
theorem c36 (h0 : 0 ≤ i) (h1 : i + 5 < (L : Int)) (hC : CR σ S) (hM : MR σ S) (hS : SOK S) (hn : ∀ τ S', CR τ S' → MR τ S' → SOK S' → Wp (some (L, xs)) (d + 20) 204 1219 [.inr (.inr (.inr 1)), .inr (.inr (.inl 0)), .inr (.inr (.inl 71)), .inl i] [] τ Q) : Wp (some (L, xs)) (d + 20) 204 1205 [.inr (.inr (.inr 1)), .inr (.inr (.inl 0)), .inr (.inr (.inl 71)), .inl i] [] σ Q := by
  have hk : SOK (fDig S).2 := hS
  simp (disch := omega) only [q204_1205, q204_1206, Nat.zero_add]
  refine CalK_E (x81 (d := d) hC hS) (fun r τ hP => ?_)
  obtain ⟨rfl, hC1, hL1⟩ := hP
  simp (disch := omega) only [q204_1209, q204_1210, Nat.zero_add, pushR_I, pushR_L]
  refine CalK_E (x202 (d := d) (MR_of hM hL1) hS) (fun r υ hP => ?_)
  obtain ⟨rfl, hM2, hL2⟩ := hP
  simp only [pushR_I, pushR_L]
  rw [q204_1213 (Or.inl rfl), if_pos rfl, q204_1214 (by unfold InR; omega), if_pos rfl]
  exact hn υ _ (CR_of hC1 hL2) hM2 hk
/-- the loop -/
theorem lawL (hL : L ≤ 3072) : ∀ (n : Nat) (i : Int) (σ : SG) (S : Nat → Int → Int), 0 ≤ i → i ≤ (L : Int) + 6 → (L : Int) < i + 6 * (n : Int) → CR σ S → MR σ S → SOK S → (∀ τ, Q (.inl 1) τ) → Wp (some (L, xs)) (d + 20) 204 18 [.inr (.inr (.inr 1)), .inr (.inr (.inl 0)), .inr (.inr (.inl 71)), .inl i] [] σ Q := by
  intro n
  induction n with
  | zero =>
    intro i σ S h0 h6 h1 hC hM hS hq
    have e : (L : Int) - 6 < i := by omega
    simp only [q204_18, q204_19, q204_20, q204_21, q204_23, Nat.zero_add]
    rw [q204_24 (by unfold InR; omega) (by unfold InR; omega), if_pos e, q204_1225, q204_1226 (Or.inr rfl)]
    exact hq σ
  | succ n ih =>
    intro i σ S h0 h6 h1 hC hM hS hq
    simp only [q204_18, q204_19, q204_20, q204_21, q204_23, Nat.zero_add]
    rw [q204_24 (by unfold InR; omega) (by unfold InR; omega)]
    by_cases e : (L : Int) - 6 < i
    · rw [if_pos e, q204_1225, q204_1226 (Or.inr rfl)]
      exact hq σ
    · rw [if_neg e]
      have hi5 : i + 5 < (L : Int) := by omega
      have nx : ∀ τ S', CR τ S' → MR τ S' → SOK S' → Wp (some (L, xs)) (d + 20) 204 1219 [.inr (.inr (.inr 1)), .inr (.inr (.inl 0)), .inr (.inr (.inl 71)), .inl i] [] τ Q := fun τ S' a b c => by
        rw [q204_1219, q204_1222]
        exact ih (i + 6) τ S' (by omega) (by omega) (by omega) a b c hq
      simp (disch := omega) only [q204_27, q204_28, q204_29, q204_30, q204_32, Nat.zero_add]
      have hc : 0 ≤ (xs i.toNat).toInt % 64 ∧ (xs i.toNat).toInt % 64 < 64 := by omega
      generalize (xs i.toNat).toInt % 64 = c at hc
      by_cases hD : 36 < c
      · rw [q204_33_D (Or.inr hD) (by unfold InR; omega)]
        exact nx σ S hC hM hS
      · have hx : c = 0 ∨ c = 1 ∨ c = 2 ∨ c = 3 ∨ c = 4 ∨ c = 5 ∨ c = 6 ∨ c = 7 ∨ c = 8 ∨ c = 9 ∨ c = 10 ∨ c = 11 ∨ c = 12 ∨ c = 13 ∨ c = 14 ∨ c = 15 ∨ c = 16 ∨ c = 17 ∨ c = 18 ∨ c = 19 ∨ c = 20 ∨ c = 21 ∨ c = 22 ∨ c = 23 ∨ c = 24 ∨ c = 25 ∨ c = 26 ∨ c = 27 ∨ c = 28 ∨ c = 29 ∨ c = 30 ∨ c = 31 ∨ c = 32 ∨ c = 33 ∨ c = 34 ∨ c = 35 ∨ c = 36 := by omega
        rcases hx with rfl | rfl | rfl | rfl | rfl | rfl | rfl | rfl | rfl | rfl | rfl | rfl | rfl | rfl | rfl | rfl | rfl | rfl | rfl | rfl | rfl | rfl | rfl | rfl | rfl | rfl | rfl | rfl | rfl | rfl | rfl | rfl | rfl | rfl | rfl | rfl | rfl
        · rw [q204_33_0]; exact c0 h0 hi5 hC hM hS nx
        · rw [q204_33_1]; exact c1 h0 hi5 hC hM hS nx
        · rw [q204_33_2]; exact c2 h0 hi5 hC hM hS nx
        · rw [q204_33_3]; exact c3 h0 hi5 hC hM hS nx
        · rw [q204_33_4]; exact c4 h0 hi5 hC hM hS nx
        · rw [q204_33_5]; exact c5 h0 hi5 hC hM hS nx
        · rw [q204_33_6]; exact c6 h0 hi5 hC hM hS nx
        · rw [q204_33_7]; exact c7 h0 hi5 hC hM hS nx
        · rw [q204_33_8]; exact c8 h0 hi5 hC hM hS nx
        · rw [q204_33_9]; exact c9 h0 hi5 hC hM hS nx
        · rw [q204_33_10]; exact c10 h0 hi5 hC hM hS nx
        · rw [q204_33_11]; exact c11 h0 hi5 hC hM hS nx
        · rw [q204_33_12]; exact c12 h0 hi5 hC hM hS nx
        · rw [q204_33_13]; exact c13 h0 hi5 hC hM hS nx
        · rw [q204_33_14]; exact c14 h0 hi5 hC hM hS nx
        · rw [q204_33_15]; exact c15 h0 hi5 hC hM hS nx
        · rw [q204_33_16]; exact c16 h0 hi5 hC hM hS nx
        · rw [q204_33_17]; exact c17 h0 hi5 hC hM hS nx
        · rw [q204_33_18]; exact c18 h0 hi5 hC hM hS nx
        · rw [q204_33_19]; exact c19 h0 hi5 hC hM hS nx
        · rw [q204_33_20]; exact c20 h0 hi5 hC hM hS nx
        · rw [q204_33_21]; exact c21 h0 hi5 hC hM hS nx
        · rw [q204_33_22]; exact c22 h0 hi5 hC hM hS nx
        · rw [q204_33_23]; exact c23 h0 hi5 hC hM hS nx
        · rw [q204_33_24]; exact c24 h0 hi5 hC hM hS nx
        · rw [q204_33_25]; exact c25 h0 hi5 hC hM hS nx
        · rw [q204_33_26]; exact c26 h0 hi5 hC hM hS nx
        · rw [q204_33_27]; exact c27 h0 hi5 hC hM hS nx
        · rw [q204_33_28]; exact c28 h0 hi5 hC hM hS nx
        · rw [q204_33_29]; exact c29 h0 hi5 hC hM hS nx
        · rw [q204_33_30]; exact c30 h0 hi5 hC hM hS nx
        · rw [q204_33_31]; exact c31 h0 hi5 hC hM hS nx
        · rw [q204_33_32]; exact c32 h0 hi5 hC hM hS nx
        · rw [q204_33_33]; exact c33 h0 hi5 hC hM hS nx
        · rw [q204_33_34]; exact c34 h0 hi5 hC hM hS nx
        · rw [q204_33_35]; exact c35 h0 hi5 hC hM hS nx
        · rw [q204_33_36]; exact c36 h0 hi5 hC hM hS nx
end LAW
