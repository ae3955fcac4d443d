/-! THE MATHEMATICS: the law's pure function comes to 1 -/
def gx_I0 : gx_F := fun k n => if k = 44 then (if n = 10 then -1 else 0) else if k = 51 then (if n = 1 ∨ n = 2 then -1 else 0) else if k < 44 then (if n = 4 then 2 else if n = 5 then -1 else 0) else 0
def gx_V0s : gx_F := fun k n => if k < 44 then (if k % 4 = 2 then gx_str n else if k % 4 = 3 then -1 else 0) else 0
def gx_J0 : gx_F := fun k n => if k = 58 ∧ n = 15 then -1 else 0
def gx_U0 : gx_F := fun k n => if k = 59 then gx_g0 n else 0
theorem gx_R0 : mb_R gx_I0 gx_V0s gx_J0 gx_U0 := by
  refine ⟨⟨by decide +kernel, by decide +kernel, by decide +kernel, rfl, rfl, rfl, rfl, rfl, rfl⟩, ⟨0, 2, by decide, rfl, by decide, by decide, rfl, Or.inl rfl, rfl, fun i hi => ?_, fun i hi => ⟨0, by decide, ?_⟩, fun p hp => Or.inl ?_⟩, ⟨0, 0, by decide, by decide, rfl, rfl, rfl, fun i hi => by omega⟩, Or.inl ⟨rfl, rfl⟩, ⟨rfl, rfl, rfl, rfl⟩, ⟨0, by decide, rfl, rfl, fun i hi => by omega⟩, ⟨0, by decide, rfl, rfl, fun i hi => by omega⟩, rfl⟩
  · have h : ∀ i, i < 7 → gx_U0 59 (6 + i) = Int32.ofNat 0 ∨ gx_U0 59 (6 + i) = Int32.ofNat 1 := by decide +kernel
    rcases h i hi with h | h
    · exact ⟨0, by decide, h⟩
    · exact ⟨1, by decide, h⟩
  · have h : ∀ i, i < 32 → gx_U0 59 (13 + i) = Int32.ofNat 0 := by decide +kernel
    exact h i hi
  · have h : ∀ p, p < 42 → gx_U0 59 (45 + p) = -1 := by decide +kernel
    exact h p hp
theorem gx_math (xs : Nat → Int32) (L : Nat) (hL : L ≤ 2560) : f_law_L xs L 1000 0 gx_I0 gx_V0s gx_J0 gx_U0 0 0 = some 1 :=
  mb_law hL 512 0 487 gx_I0 gx_V0s gx_J0 gx_U0 0 0 (by decide) (by omega) gx_R0
