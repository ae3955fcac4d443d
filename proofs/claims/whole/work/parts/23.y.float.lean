/-! the mean hold and the part that stands, both sides -/
theorem mb_fd : ∀ b, b < 43 → b ≠ 0 → ∀ a, a < 253 → gx_n64 (FP.ddiv (FP.i2d (Int32.ofNat (2 * a))) (FP.i2d (Int32.ofNat b))) = true := by decide +kernel
theorem mb_ff2 : ∀ b, b < 43 → b ≠ 0 → ∀ a, a < 43 → gx_n32 (FP.fdiv (FP.i2f (Int32.ofNat a)) (FP.i2f (Int32.ofNat b))) = true ∧ gx_n64 (FP.f2d (FP.fdiv (FP.i2f (Int32.ofNat a)) (FP.i2f (Int32.ofNat b)))) = true ∧ Op.cmpValue (FP.dcmp (FP.f2d (FP.fdiv (FP.i2f (Int32.ofNat a)) (FP.i2f (Int32.ofNat b)))) (FP.f2d (FP.fdiv (FP.i2f (Int32.ofNat a)) (FP.i2f (Int32.ofNat b))))) .l = 0 := by decide +kernel
def mb_ANd (x : Option (Int32 × gx_F × gx_F × UInt64)) (y : Option (UInt64 × gx_F × gx_F)) : Prop := ∃ t I' V' d' a J' U', x = some (t, I', V', d') ∧ y = some (a, J', U') ∧ J' 58 9 = t ∧ (t = 0 → d' = a) ∧ mb_R I' V' J' U'
def mb_ANf (x : Option (Int32 × gx_F × gx_F × UInt64)) (y : Option (UInt32 × gx_F × gx_F)) : Prop := ∃ t I' V' d' a J' U', x = some (t, I', V', d') ∧ y = some (a, J', U') ∧ J' 58 9 = t ∧ (t = 0 → d' = FP.f2d a ∧ gx_n64 (FP.f2d a) = true ∧ Op.cmpValue (FP.dcmp (FP.f2d a) (FP.f2d a)) .l = 0) ∧ mb_R I' V' J' U'
theorem mb_c31 {I V J U : gx_F} (h : mb_R I V J U) (d : UInt64) : mb_ANd (f_L_meanHold I V d) (f_X7_meanHold J U) := by
  have h0 := h
  obtain ⟨hw, hi, -⟩ := h
  have b7 : f_X7_bricks (gx_u J 58 9 0) U = some (mb_bricks (U 59)) := mb_bricks7
  have a7 : f_X7_allHolds (gx_u J 58 9 0) U = some (Int32.ofNat (mb_all (U 59))) := mb_allH7 hi
  have b7' : f_X7_bricks J U = some (mb_bricks (U 59)) := mb_bricks7
  rw [f_L_meanHold, f_X6_meanHold, f_X7_meanHold, mb_fails0, mb_fails1, mb_brickCount hw hi, mb_allH5 hw hi (mb_woN (U 59)), b7', mb_bricks_of]
  simp only [Option.bind_some]
  have hmx := mb_bn_max (U 59)
  by_cases hz : mb_bn (U 59) = 0
  · rw [hz]
    exact ⟨1, I, V, d, FP.dconst0, gx_u J 58 9 1, U, rfl, rfl, rfl, fun h => absurd h (by decide), h0.sc (mb_sc.refl I V) (fun _ _ => rfl) 1⟩
  · have hz2 : ¬ Int32.ofNat (mb_bn (U 59)) = 0 := fun h => hz ((mb_eq0 (by omega)).mp h)
    obtain ⟨x, hx, ex⟩ : ∃ x, x < 253 ∧ mb_all (U 59) = 2 * x := by
      have e := mb_pfD (mb_wsB (U 59)) hi
      have := mb_all_max hi
      have e2 : mb_all (U 59) = 2 * mb_T (fun p => mb_pf (mb_bN (U 59)) (U 59) p 1 + mb_pf (mb_bN (U 59)) (U 59) p 2) 0 42 := e
      exact ⟨_, by omega, e2⟩
    have hn := mb_fd (mb_bn (U 59)) (by omega) hz x hx
    rw [← ex] at hn
    rw [if_neg hz2, if_neg hz2, mb_ck hn, if_pos gx_bi_0, a7, b7, mb_bricks_of]
    simp only [Option.bind_some]
    rw [mb_ck hn]
    exact ⟨0, I, V, _, _, gx_u J 58 9 0, U, rfl, rfl, rfl, fun _ => rfl, h0.sc (mb_sc.refl I V) (fun _ _ => rfl) 0⟩
theorem mb_c32 {I V J U : gx_F} (h : mb_R I V J U) (d : UInt64) : mb_ANf (f_L_standing I V d) (f_X7_standing J U) := by
  have h0 := h
  obtain ⟨hw, hi, -⟩ := h
  obtain ⟨I1, V1, e1, sc1, r1⟩ := mb_count0 hw hi
  obtain ⟨U1, e2, fu, r2⟩ := mb_stand7 (J := gx_u J 58 9 0) (U := U) rfl hi
  have b7' : f_X7_bricks J U = some (mb_bricks (U 59)) := mb_bricks7
  have b7 : f_X7_bricks (gx_u J 58 9 0) U1 = some (mb_bricks (U 59)) := by
    have x : f_X7_bricks (gx_u J 58 9 0) U1 = some (mb_bricks (U1 59)) := mb_bricks7
    rw [fu 59 (by decide)] at x
    exact x
  rw [f_L_standing, f_X6_standing, f_X7_standing, mb_fails0, mb_fails1, mb_brickCount hw hi, e1, b7', mb_bricks_of]
  simp only [Option.bind_some]
  have hmx := mb_bn_max (U 59)
  have hsx := mb_sn_max (U 59)
  by_cases hz : mb_bn (U 59) = 0
  · rw [hz]
    exact ⟨1, I, V, d, FP.fconst0, gx_u J 58 9 1, U, rfl, rfl, rfl, fun h => absurd h (by decide), h0.sc (mb_sc.refl I V) (fun _ _ => rfl) 1⟩
  · have hz2 : ¬ Int32.ofNat (mb_bn (U 59)) = 0 := fun h => hz ((mb_eq0 (by omega)).mp h)
    obtain ⟨hn, hn2, hn3⟩ := mb_ff2 (mb_bn (U 59)) (by omega) hz (mb_sn (U 59)) (by omega)
    rw [if_neg hz2, if_neg hz2, mb_ck hn, if_pos gx_bi_0, e2]
    simp only [Option.bind_some]
    rw [b7, mb_bricks_of]
    simp only [Option.bind_some]
    rw [mb_ck hn]
    refine ⟨0, I1, V1, _, _, gx_u J 58 9 0, U1, ?_, rfl, rfl, fun _ => ⟨rfl, hn2, hn3⟩, h0.sc sc1 fu 0⟩
    show gx_ck (gx_n64 (FP.f2d (FP.fdiv (FP.i2f (Int32.ofNat (mb_sn (U 59)))) (FP.i2f (Int32.ofNat (mb_bn (U 59))))))) _ = _
    rw [mb_ck hn2]
