/-! the face's methods that throw: pure functions, walks, calls (gen4.py) -/
noncomputable def f_X6_kind (x1 : Int32) (x2 : Int32) (x3 : Int32) (x4 : Int32) (I V : gx_F) : Option ((Int32 ⊕ Nat) × gx_F × gx_F) := (Option.bind (f_X5_copyFrom 4 0 I V) fun uq_1 => (Option.bind (f_X3_tellKind 0 x1 x2 x3 x4 uq_1.1 uq_1.2) fun uq_2 => (Option.bind (f_X6_settled uq_2.1 uq_2.2.1 uq_2.2.2) fun uq_3 => (if uq_3.1 = (-1) then (some (.inr 0, uq_3.2.1, uq_3.2.2)) else (some (.inl uq_3.1, uq_3.2.1, uq_3.2.2))))))
noncomputable def f_X6_lay (x1 : Int32) (x2 : Int32) (x3 : Int32) (I V : gx_F) : Option ((Int32 ⊕ Nat) × gx_F × gx_F) := (Option.bind (f_X5_copyFrom 4 0 I V) fun uq_1 => (Option.bind (f_X3_layBrick 0 x1 x2 x3 uq_1.1 uq_1.2) fun uq_2 => (Option.bind (f_X6_settled uq_2.1 uq_2.2.1 uq_2.2.2) fun uq_3 => (if uq_3.1 = (-1) then (some (.inr 0, uq_3.2.1, uq_3.2.2)) else (some (.inl uq_3.1, uq_3.2.1, uq_3.2.2))))))
noncomputable def f_X6_takeOut (x1 : Int32) (I V : gx_F) : Option ((Int32 ⊕ Nat) × gx_F × gx_F) := (Option.bind (f_X5_copyFrom 4 0 I V) fun uq_1 => (Option.bind (f_X3_takeBrick 0 x1 uq_1.1 uq_1.2) fun uq_2 => (Option.bind (f_X6_settled uq_2.1 uq_2.2.1 uq_2.2.2) fun uq_3 => (if uq_3.1 = (-1) then (some (.inr 0, uq_3.2.1, uq_3.2.2)) else (some (.inl uq_3.1, uq_3.2.1, uq_3.2.2))))))
noncomputable def f_X6_grow (x1 : Int32) (I V : gx_F) : Option ((Int32 ⊕ Nat) × gx_F × gx_F) := (Option.bind (f_X5_copyFrom 4 0 I V) fun uq_1 => (Option.bind (f_X3_growBricks 0 x1 uq_1.1 uq_1.2) fun uq_2 => (Option.bind (f_X6_settled uq_2.1 uq_2.2.1 uq_2.2.2) fun uq_3 => (if uq_3.1 = (-1) then (some (.inr 0, uq_3.2.1, uq_3.2.2)) else (some (.inl uq_3.1, uq_3.2.1, uq_3.2.2))))))
noncomputable def f_X6_strength (x1 : Int32) (x2 : Int32) (I V : gx_F) : Option ((Int32 ⊕ Nat) × gx_F × gx_F) := (Option.bind (f_X5_copyFrom 4 0 I V) fun uq_1 => (Option.bind (f_X3_setStrength 0 x1 x2 uq_1.1 uq_1.2) fun uq_2 => (Option.bind (f_X6_settled uq_2.1 uq_2.2.1 uq_2.2.2) fun uq_3 => (if uq_3.1 = (-1) then (some (.inr 0, uq_3.2.1, uq_3.2.2)) else (some (.inl uq_3.1, uq_3.2.1, uq_3.2.2))))))
noncomputable def f_X6_need (x1 : Int32) (I V : gx_F) : Option ((Int32 ⊕ Nat) × gx_F × gx_F) := (Option.bind (f_X5_copyFrom 4 0 I V) fun uq_1 => (Option.bind (f_X3_setNeed 0 x1 uq_1.1 uq_1.2) fun uq_2 => (Option.bind (f_X6_settled uq_2.1 uq_2.2.1 uq_2.2.2) fun uq_3 => (if uq_3.1 = (-1) then (some (.inr 0, uq_3.2.1, uq_3.2.2)) else (some (.inl uq_3.1, uq_3.2.1, uq_3.2.2))))))
noncomputable def f_X6_glueOf (x1 : Int32) (x2 : Int32) (x3 : Int32) (I V : gx_F) : Option (Int32 ⊕ Nat) := (Option.bind (f_X5_hasKind 0 x1 I V) fun uq_1 => (if (gx_bi uq_1) = 0 then (some (.inr 1)) else (Option.bind (f_X6_isTurnOrSide x2 I V) fun uq_2 => (if (gx_bi uq_2) = 0 then (some (.inr 2)) else (Option.bind (f_X6_isTurnOrSide x3 I V) fun uq_3 => (if (gx_bi uq_3) = 0 then (some (.inr 2)) else (Option.bind (f_X6_brickOf x1 x2 I V) fun uq_4 => (Option.bind (f_X5_glueOn 0 uq_4 x3 I V) fun uq_5 => (some (.inl uq_5))))))))))
noncomputable def f_X6_strengthOf (x1 : Int32) (I V : gx_F) : Option (Int32 ⊕ Nat) := (if x1 < 0 then (some (.inr 2)) else (if x1 ≤ 6 then (gx_ck (gx_in x1 7) (some (.inl (V (0 + 2) x1.toNatClampNeg)))) else (some (.inr 2))))
noncomputable def f_X6_brickAt (x1 : Int32) (x2 : Int32) (I V : gx_F) : Option (Int32 ⊕ Nat) := (Option.bind (f_X6_isPlace x1 I V) fun uq_1 => (if (gx_bi uq_1) = 0 then (some (.inr 1)) else (Option.bind (f_X5_brickOn 0 x1 I V) fun uq_2 => (if uq_2 = (-1) then (some (.inr 3)) else (if x2 = 0 then (Option.bind (f_X6_kindOf uq_2 I V) fun uq_3 => (some (.inl uq_3))) else (Option.bind (f_X6_turnOf uq_2 I V) fun uq_4 => (some (.inl uq_4))))))))
noncomputable def f_X6_seed (I V : gx_F) : Option (Int32 ⊕ Nat) := (if (I 0 5) = (-1) then (some (.inr 3)) else (some (.inl (I 0 5))))
noncomputable def f_X6_hold (x1 : Int32) (I V : gx_F) : Option (Int32 ⊕ Nat) := (Option.bind (f_X6_isPlace x1 I V) fun uq_1 => (if (gx_bi uq_1) = 0 then (some (.inr 1)) else (Option.bind (f_X5_brickOn 0 x1 I V) fun uq_2 => (if uq_2 = (-1) then (some (.inr 3)) else (Option.bind (f_X5_holdFor 0 uq_2 x1 I V) fun uq_3 => (some (.inl uq_3)))))))
noncomputable def f_X6_holdAgain (x1 : Int32) (I V : gx_F) : Option (Int32 ⊕ Nat) := (Option.bind (f_X6_isPlace x1 I V) fun uq_1 => (if (gx_bi uq_1) = 0 then (some (.inr 1)) else (Option.bind (f_X5_isFree 0 x1 I V) fun uq_2 => (if (gx_bi uq_2) = 0 then (Option.bind (f_X5_allHolds 0 (-1) I V) fun uq_3 => (Option.bind (f_X5_allHolds 0 x1 I V) fun uq_4 => (some (.inl ((uq_3 - uq_4) / 2))))) else (some (.inr 3))))))
noncomputable def f_X6_wouldHold (x1 : Int32) (x2 : Int32) (x3 : Int32) (I V : gx_F) : Option (Int32 ⊕ Nat) := (Option.bind (f_X6_isPlace x1 I V) fun uq_1 => (if (gx_bi uq_1) = 0 then (some (.inr 1)) else (Option.bind (f_X5_hasKind 0 x2 I V) fun uq_2 => (if (gx_bi uq_2) = 0 then (some (.inr 1)) else (Option.bind (f_X6_isTurnOrSide x3 I V) fun uq_3 => (if (gx_bi uq_3) = 0 then (some (.inr 2)) else (Option.bind (f_X5_isFree 0 x1 I V) fun uq_4 => (if (gx_bi uq_4) = 0 then (some (.inr 3)) else (Option.bind (f_X6_brickOf x2 x3 I V) fun uq_5 => (Option.bind (f_X5_holdFor 0 uq_5 x1 I V) fun uq_6 => (some (.inl uq_6))))))))))))
noncomputable def f_X6_stands (x1 : Int32) (I V : gx_F) : Option ((Bool ⊕ Nat) × gx_F × gx_F) := (Option.bind (f_X6_isPlace x1 I V) fun uq_1 => (if (gx_bi uq_1) = 0 then (some (.inr 1, I, V)) else (Option.bind (f_X5_isFree 0 x1 I V) fun uq_2 => (if (gx_bi uq_2) = 0 then (Option.bind (f_X0_countWithout 0 (-1) I V) fun uq_3 => (Option.bind (f_X0_isReached x1 uq_3.2.1 uq_3.2.2) fun uq_4 => (some (.inl uq_4, uq_3.2.1, uq_3.2.2)))) else (some (.inr 3, I, V))))))
noncomputable def f_X6_falls (x1 : Int32) (I V : gx_F) : Option ((Int32 ⊕ Nat) × gx_F × gx_F) := (Option.bind (f_X6_isPlace x1 I V) fun uq_1 => (if (gx_bi uq_1) = 0 then (some (.inr 1, I, V)) else (Option.bind (f_X5_isFree 0 x1 I V) fun uq_2 => (if (gx_bi uq_2) = 0 then (Option.bind (f_X0_fallingWithout 0 x1 I V) fun uq_3 => (some (.inl uq_3.1, uq_3.2.1, uq_3.2.2))) else (some (.inr 3, I, V))))))
noncomputable def f_X6_errorsAt (x1 : Int32) (I V : gx_F) : Option (Int32 ⊕ Nat) := (Option.bind (f_X6_isPlace x1 I V) fun uq_1 => (if (gx_bi uq_1) = 0 then (some (.inr 1)) else (Option.bind (f_X5_isFree 0 x1 I V) fun uq_2 => (if (gx_bi uq_2) = 0 then (Option.bind (f_X5_errorsOf 0 x1 I V) fun uq_3 => (some (.inl uq_3))) else (some (.inr 3))))))
noncomputable def f_X6_nextPlace (I V : gx_F) : Option ((Int32 ⊕ Nat) × gx_F × gx_F) := (Option.bind (f_X1_findFrom 0 0 I V) fun uq_1 => (if (gx_bi uq_1.1) = 0 then (some (.inr 3, uq_1.2.1, uq_1.2.2)) else (some (.inl (uq_1.2.1 51 1), uq_1.2.1, uq_1.2.2))))
noncomputable def f_X6_nextBrick (I V : gx_F) : Option ((Int32 ⊕ Nat) × gx_F × gx_F) := (Option.bind (f_X1_findFrom 0 0 I V) fun uq_1 => (if (gx_bi uq_1.1) = 0 then (some (.inr 3, uq_1.2.1, uq_1.2.2)) else (some (.inl (uq_1.2.1 51 2), uq_1.2.1, uq_1.2.2))))
noncomputable def f_X6_choices (x1 : Int32) (I V : gx_F) : Option ((Int32 ⊕ Nat) × gx_F × gx_F) := (Option.bind (f_X6_isPlace x1 I V) fun uq_1 => (if (gx_bi uq_1) = 0 then (some (.inr 1, I, V)) else (Option.bind (f_X5_isFree 0 x1 I V) fun uq_2 => (if (gx_bi uq_2) = 0 then (some (.inr 3, I, V)) else (Option.bind (f_X1_choicesFor 0 x1 I V) fun uq_3 => (some (.inl uq_3.1, uq_3.2.1, uq_3.2.2)))))))
noncomputable def f_X6_inRow_L1 (x1 : Int32) (x2 : Int32) (I : gx_F) (V : gx_F) (K1 : Int32 → Int32 → Option (Int32 ⊕ Nat)) : Nat → Int32 → Int32 → Option (Int32 ⊕ Nat)
  | 0, _, _ => none
  | n + 1, uv_1, uv_2 => (if 42 ≤ uv_2 then (K1 uv_1 uv_2) else (if x2 = 0 then (if (uv_2 / 7) = x1 then (Option.bind (f_X5_isFree 0 uv_2 I V) fun uq_3 => (if (gx_bi uq_3) = 0 then (f_X6_inRow_L1 x1 x2 I V K1 n (uv_1 + 1) (uv_2 + 1)) else (f_X6_inRow_L1 x1 x2 I V K1 n uv_1 (uv_2 + 1)))) else (f_X6_inRow_L1 x1 x2 I V K1 n uv_1 (uv_2 + 1))) else (if (gx_rem uv_2 7) = x1 then (Option.bind (f_X5_isFree 0 uv_2 I V) fun uq_4 => (if (gx_bi uq_4) = 0 then (f_X6_inRow_L1 x1 x2 I V K1 n (uv_1 + 1) (uv_2 + 1)) else (f_X6_inRow_L1 x1 x2 I V K1 n uv_1 (uv_2 + 1)))) else (f_X6_inRow_L1 x1 x2 I V K1 n uv_1 (uv_2 + 1)))))
noncomputable def f_X6_inRow_L2 (x1 : Int32) (x2 : Int32) (I : gx_F) (V : gx_F) (K2 : Int32 → Int32 → Option (Int32 ⊕ Nat)) : Nat → Int32 → Int32 → Option (Int32 ⊕ Nat)
  | 0, _, _ => none
  | n + 1, uv_7, uv_8 => (if 42 ≤ uv_8 then (K2 uv_7 uv_8) else (if x2 = 0 then (if (uv_8 / 7) = x1 then (Option.bind (f_X5_isFree 0 uv_8 I V) fun uq_9 => (if (gx_bi uq_9) = 0 then (f_X6_inRow_L2 x1 x2 I V K2 n (uv_7 + 1) (uv_8 + 1)) else (f_X6_inRow_L2 x1 x2 I V K2 n uv_7 (uv_8 + 1)))) else (f_X6_inRow_L2 x1 x2 I V K2 n uv_7 (uv_8 + 1))) else (if (gx_rem uv_8 7) = x1 then (Option.bind (f_X5_isFree 0 uv_8 I V) fun uq_10 => (if (gx_bi uq_10) = 0 then (f_X6_inRow_L2 x1 x2 I V K2 n (uv_7 + 1) (uv_8 + 1)) else (f_X6_inRow_L2 x1 x2 I V K2 n uv_7 (uv_8 + 1)))) else (f_X6_inRow_L2 x1 x2 I V K2 n uv_7 (uv_8 + 1)))))
noncomputable def f_X6_inRow (x1 : Int32) (x2 : Int32) (I V : gx_F) : Option (Int32 ⊕ Nat) := (if x1 < 0 then (some (.inr 1)) else (if x2 = 0 then (if x1 < 6 then (f_X6_inRow_L1 x1 x2 I V (fun uv_5 uv_6 => (some (.inl uv_5))) 1000 0 0) else (some (.inr 1))) else (if x1 < 7 then (f_X6_inRow_L2 x1 x2 I V (fun uv_11 uv_12 => (some (.inl uv_11))) 1000 0 0) else (some (.inr 1)))))
noncomputable def f_X6_weakest (x1 : Int32) (I V : gx_F) : Option (Int32 ⊕ Nat) := (Option.bind (f_X6_placeByHold x1 I V) fun uq_1 => (if uq_1 = (-1) then (some (.inr 3)) else (some (.inl uq_1))))
noncomputable def f_X6_append (x1 : Int32) (I V : gx_F) : Option ((Int32 ⊕ Nat) × gx_F × gx_F) := (Option.bind (f_X4_isFull I V) fun uq_1 => (if (gx_bi uq_1) = 0 then (Option.bind (f_X4_add x1 I V) fun uq_2 => (some (.inl uq_2.1, uq_2.2.1, uq_2.2.2))) else (some (.inr 4, I, V))))
noncomputable def f_X6_commands_L1 (K1 : Int32 → gx_F → gx_F → Option ((Int32 ⊕ Nat) × gx_F × gx_F)) : Nat → Int32 → gx_F → gx_F → Option ((Int32 ⊕ Nat) × gx_F × gx_F)
  | 0, _, _, _ => none
  | n + 1, uv_4, uI_5, uV_6 => (if (uI_5 54 5) ≤ uv_4 then (K1 uv_4 uI_5 uV_6) else (Option.bind (f_X6_carryOut uv_4 uI_5 uV_6) fun uq_7 => (if uq_7.1 = (-1) then (Option.bind (f_X5_copyFrom 0 4 (gx_u uq_7.2.1 44 8 uv_4) uq_7.2.2) fun uq_8 => (some (.inr 0, uq_8.1, uq_8.2))) else (f_X6_commands_L1 K1 n (uv_4 + 1) uq_7.2.1 uq_7.2.2))))
noncomputable def f_X6_commands (I V : gx_F) : Option ((Int32 ⊕ Nat) × gx_F × gx_F) := (Option.bind (f_X4_read I V) fun uq_1 => (Option.bind (f_X4_clear (gx_u uq_1.2.1 44 10 uq_1.1) uq_1.2.2) fun uq_2 => (if (uq_2.1 44 10) = (-1) then (Option.bind (f_X5_copyFrom 4 0 uq_2.1 uq_2.2) fun uq_3 => (f_X6_commands_L1 (fun uv_9 uI_10 uV_11 => (Option.bind (f_X2_push 4 uI_10 uV_11) fun uq_12 => (some (.inl (uq_12.1 54 5), uq_12.1, uq_12.2)))) 1000 0 uq_3.1 uq_3.2)) else (some (.inr 2, uq_2.1, uq_2.2)))))
noncomputable def f_X6_reason (x1 : Int32) (I V : gx_F) : Option (Int32 ⊕ Nat) := (if x1 < 0 then (some (.inr 2)) else (if x1 ≤ 2 then (if (I 53 2) = 0 then (some (.inr 3)) else (if x1 = 0 then (some (.inl (I 53 2))) else (if x1 = 1 then (some (.inl (I 53 3))) else (some (.inl (I 44 8)))))) else (some (.inr 2))))
noncomputable def f_X6_line_L1 (x1 : Int32) (K1 : Int32 → gx_F → gx_F → Option ((Int32 ⊕ Nat) × gx_F × gx_F)) : Nat → Int32 → gx_F → gx_F → Option ((Int32 ⊕ Nat) × gx_F × gx_F)
  | 0, _, _, _ => none
  | n + 1, uv_1, uI_2, uV_3 => (if 7 ≤ uv_1 then (K1 uv_1 uI_2 uV_3) else (Option.bind (f_X5_brickOn 0 ((x1 * 7) + uv_1) uI_2 uV_3) fun uq_4 => (Option.bind (f_X6_writePlace uq_4 uI_2 uV_3) fun uq_5 => (f_X6_line_L1 x1 K1 n (uv_1 + 1) uq_5.1 uq_5.2))))
noncomputable def f_X6_line (x1 : Int32) (I V : gx_F) : Option ((Int32 ⊕ Nat) × gx_F × gx_F) := (if x1 < 0 then (some (.inr 1, I, V)) else (if x1 < 6 then (f_X6_line_L1 x1 (fun uv_6 uI_7 uV_8 => (some (.inl (uI_7 44 12), uI_7, uV_8))) 1000 0 (gx_u I 44 12 0) V) else (some (.inr 1, I, V))))
noncomputable def f_X6_character (x1 : Int32) (I V : gx_F) : Option (Int32 ⊕ Nat) := (if x1 < 0 then (some (.inr 1)) else (if x1 < (I 44 12) then (gx_ck (gx_in x1 28) (some (.inl (gx_chr (V 45 x1.toNatClampNeg))))) else (some (.inr 1))))
noncomputable def f_X6_meanHold (I V : gx_F) : Option (UInt64 ⊕ Nat) := (Option.bind (f_X5_brickCount 0 I V) fun uq_1 => (if uq_1 = 0 then (some (.inr 5)) else (Option.bind (f_X5_allHolds 0 (-1) I V) fun uq_2 => (gx_ck (gx_n64 (FP.ddiv (FP.i2d uq_2) (FP.i2d uq_1))) (some (.inl (FP.ddiv (FP.i2d uq_2) (FP.i2d uq_1))))))))
noncomputable def f_X6_standing (I V : gx_F) : Option ((UInt32 ⊕ Nat) × gx_F × gx_F) := (Option.bind (f_X5_brickCount 0 I V) fun uq_1 => (if uq_1 = 0 then (some (.inr 5, I, V)) else (Option.bind (f_X0_countWithout 0 (-1) I V) fun uq_2 => (gx_ck (gx_n32 (FP.fdiv (FP.i2f uq_2.1) (FP.i2f uq_1))) (some (.inl (FP.fdiv (FP.i2f uq_2.1) (FP.i2f uq_1)), uq_2.2.1, uq_2.2.2))))))
noncomputable def f_X6_account (x1 : Int32) (I V : gx_F) : Option (Int32 ⊕ Nat) := (if x1 = 0 then (some (.inl (I 0 3))) else (if x1 = 1 then (Option.bind (f_X5_brickCount 0 I V) fun uq_1 => (some (.inl uq_1))) else (if x1 = 2 then (some (.inl (I 0 4))) else (if x1 = 3 then (some (.inl (I 0 6))) else (if x1 = 4 then (some (.inl (I 0 7))) else (if x1 = 5 then (some (.inl (I 0 8))) else (if x1 = 6 then (Option.bind (f_X5_allHolds 0 (-1) I V) fun uq_2 => (some (.inl uq_2))) else (if x1 = 7 then (Option.bind (f_X5_neighbourPairs 0 I V) fun uq_3 => (some (.inl uq_3))) else (if x1 = 8 then (some (.inl (I 46 2))) else (if x1 = 9 then (some (.inl (I 54 4))) else (some (.inr 2))))))))))))
noncomputable def f_X6_undo (I V : gx_F) : Option ((Int32 ⊕ Nat) × gx_F × gx_F) := (if (I 46 2) = 0 then (some (.inr 4, I, V)) else (Option.bind (f_X2_popInto 0 I V) fun uq_1 => (some (.inl (uq_1.1 46 2), uq_1.1, uq_1.2))))
noncomputable def f_X6_restore (I V : gx_F) : Option ((Int32 ⊕ Nat) × gx_F × gx_F) := (if (gx_boo (I 44 3)) = 0 then (some (.inr 4, I, V)) else (Option.bind (f_X5_copyFrom 0 8 I V) fun uq_1 => (Option.bind (f_X2_forget uq_1.1 uq_1.2) fun uq_2 => (Option.bind (f_X5_brickCount 0 uq_2.1 uq_2.2) fun uq_3 => (some (.inl uq_3, uq_2.1, uq_2.2))))))
theorem gx_recvX {G : gx_G} {C M : gx_S} {o : Int64} {d : UInt64} {s : State} {H : Heap} {locs : List Loc} {av : List Value} (hV : gx_V G s) (hZ : gx_Z G s s.heap) (hw : gx_at G C M o d s.heap H locs) {k ci N : Nat} {Cn : String} {T : u_T} {fs : List Value} (hk : k < 70) (hcell : gx_cell G C M o d k = .inr (ci, fs)) (hcl : vwCl[ci]? = some (Cn, T, N)) : PreV s H Cn (G.2.1 k) (va_Pc (.ref (G.2.1 k) :: av) (gx_UX G C M o d)) av := by
  obtain ⟨-, h2, -⟩ := gx_recv (av := av) hV hw hk hcell hcl
  exact ⟨gx_blindX, h2, fun U hU hW => ⟨rfl, gx_goX hV hZ hw U hU hW⟩⟩
set_option maxHeartbeats 4000000 in
set_option maxRecDepth 100000 in
theorem k_X6_kind {l : Launch} {G : gx_G} {M : gx_S} {o : Int64} {d : UInt64} {I V : gx_F} {x1 : Int32} {x2 : Int32} {x3 : Int32} {x4 : Int32} {out : ((Int32 ⊕ Nat) × gx_F × gx_F)} (hl9 : l.stackTraces = false) (hF : f_X6_kind x1 x2 x3 x4 I V = some out) : gx_KX l yX6_kind cX6_kind 6 (some .int) { frames := 6, cells := 1, slots := 6, locals := 143 } [.ref (G.2.1 44), .int x1, .int x2, .int x3, .int x4] G (I, V) M o d (gx_QXi G out.1 (out.2.1, out.2.2) M o d) out.1 (out.2.1, out.2.2) := by
  refine gx_beginX (by decide +kernel) (Nat.le_of_ble_eq_true rfl) ?_
  intro p e s m below meth c hx hb hr hml hown hlocks htab hV hZ hw ls hl
  have hown : s.vm.findClass RX6 = some m.cls := hown
  have hl : lv_has ls 6 [(0, .ref (G.2.1 44)), (1, .int x1), (2, .int x2), (3, .int x3), (4, .int x4)] := hl
  unfold f_X6_kind at hF
  refine lv_aload_n (pc := 0) hx hb dX6_kind_0 rfl (lv_at hl 0 rfl) ?_
  refine gg_X6_1 (pc := 1) hx hb hown hV hw (gw_234 hV) dX6_kind_1 ?_
  refine lv_aload_n (pc := 4) hx hb dX6_kind_4 rfl (lv_at hl 0 rfl) ?_
  refine gg_X6_0 (pc := 5) hx hb hown hV hw (gw_233 hV) dX6_kind_5 ?_
  obtain ⟨uq_1, huq_1, hF⟩ := Option.bind_eq_some_iff.mp hF
  refine cl_X5_copyFrom (pc := 8) hx hb hml hown hV hw gx_w4 gx_w0 huq_1 (gw_369 hV) hl.1 (Nat.le_of_ble_eq_true rfl) (Nat.le_of_ble_eq_true rfl) (Nat.le_of_ble_eq_true rfl) dX6_kind_8 (fun H locs hw => ?_)
  refine lv_aload_n (pc := 11) hx hb dX6_kind_11 rfl (lv_at hl 0 rfl) ?_
  refine lv_aload_n (pc := 12) hx hb dX6_kind_12 rfl (lv_at hl 0 rfl) ?_
  refine gg_X6_7 (pc := 13) hx hb hown hV hw (gw_240 hV) dX6_kind_13 ?_
  refine lv_aload_n (pc := 16) hx hb dX6_kind_16 rfl (lv_at hl 0 rfl) ?_
  refine gg_X6_0 (pc := 17) hx hb hown hV hw (gw_233 hV) dX6_kind_17 ?_
  refine lv_iload_n (pc := 20) hx hb dX6_kind_20 rfl (lv_at hl 1 rfl) ?_
  refine lv_iload_n (pc := 21) hx hb dX6_kind_21 rfl (lv_at hl 2 rfl) ?_
  refine lv_iload_n (pc := 22) hx hb dX6_kind_22 rfl (lv_at hl 3 rfl) ?_
  refine lv_iload (pc := 23) hx hb dX6_kind_23 (lv_at hl 4 rfl) ?_
  obtain ⟨uq_2, huq_2, hF⟩ := Option.bind_eq_some_iff.mp hF
  refine cl_X3_tellKind (pc := 25) hx hb hml hown hV hw gx_w0 huq_2 (gw_405 hV) hl.1 (Nat.le_of_ble_eq_true rfl) (Nat.le_of_ble_eq_true rfl) (Nat.le_of_ble_eq_true rfl) dX6_kind_25 (fun H locs hw => ?_)
  obtain ⟨uq_3, huq_3, hF⟩ := Option.bind_eq_some_iff.mp hF
  refine cl_X6_settled (pc := 28) hx hb hml hown hV hw huq_3 (gw_416 hV) hl.1 (Nat.le_of_ble_eq_true rfl) (Nat.le_of_ble_eq_true rfl) (Nat.le_of_ble_eq_true rfl) dX6_kind_28 (fun H locs hw => ?_)
  refine lv_istore (pc := 31) (lv' := [(5, .int uq_3.1), (0, .ref (G.2.1 44)), (1, .int x1), (2, .int x2), (3, .int x3), (4, .int x4)]) hx hb dX6_kind_31 hl (by decide) rfl (fun ls hl => ?_)
  refine lv_iload (pc := 33) hx hb dX6_kind_33 (lv_at hl 0 rfl) ?_
  refine lv_iconst (pc := 35) (v := (-1)) hx hb dX6_kind_35 (by decide) ?_
  refine gx_icmp_ne (pc := 36) (tgt := 49) hx hb hF dX6_kind_36 (by decide) (fun hF => ?_) (fun hF => ?_)
  · refine lv_iload (pc := 49) hx hb dX6_kind_49 (lv_at hl 0 rfl) ?_
    cases hF
    exact gx_iretX hx hb hr hlocks hw dX6_kind_51
  cases hF
  exact gx_throwS (pc := 39) (i := 0) rfl (by decide +kernel) gx_kt0 hx hb hl9 hown hlocks htab hV hZ hw (hl.1.trans hml.symm) (List.mem_of_getElem? (i := 0) rfl) (by decide) (by decide) (by decide) (by decide) dX6_kind_39 dX6_kind_42 dX6_kind_43 dX6_kind_45 dX6_kind_48
set_option maxRecDepth 100000 in
theorem cx_X6_kind {l : Launch} {G : gx_G} {M : gx_S} {o : Int64} {d : UInt64} {I V : gx_F} {p : Program} {e : Env} {R : Room} {s : State} {m : MethodId} {args : Array Value} {below : List Frame} {meth : Method} {c : Code} {H : Heap} {locs : List Loc} {Q : State → Prop} {cc : ByteArray} {pc nL index : Nat} {ls : Array Slot} {rest : List Value} {own : String} {x1 : Int32} {x2 : Int32} {x3 : Int32} {x4 : Int32} {out : ((Int32 ⊕ Nat) × gx_F × gx_F)} (hl9 : l.stackTraces = false) (hx : p.tables.exec = Jvm.exec) (hb : c.code = cc) (hml : c.maxLocals = nL) (hown : s.vm.findClass own = some m.cls) (hV : gx_V G s) (hZ : gx_Z G s s.heap) (hw : gx_at G (I, V) M o d s.heap H locs) (hF : f_X6_kind x1 x2 x3 x4 I V = some out) (hlink : (Cond.methodLink own index yX6_kind).before args s = true) (hsz : ls.size = nL) (hfr : 7 ≤ R.frames) (hlo : 168 ≤ R.locals) (hrest : (rest.map fun v => v.category).sum ≤ 8) (hc : 1 ≤ R.cells) (hs : 6 ≤ R.slots) (hdg : decode cc pc = .ok (.invokevirtual index, 3))
    (kx : ∀ (i : Nat) (ce : Cell) (q8 : Addr) (H1 : Heap) (locs1 : List Loc), out.1 = .inr i → gx_at G (out.2.1, out.2.2) M o d s.heap H1 locs1 → H1[q8]? = some ce → ce.vm = .none → s.vm.findClass (gx_en i) = some ce.cls → vx_W p l e R s m args below meth c H1 locs1 1 6 Q (F0 m pc ls rest) q8)
    (kk : ∀ (q9 : Int32) (H1 : Heap) (locs1 : List Loc), out.1 = .inl q9 → gx_at G (out.2.1, out.2.2) M o d s.heap H1 locs1 → W p l e R s m args below meth c H1 locs1 1 6 Q (F0 m (pc + 3) ls (.int q9 :: rest))) : W p l e R s m args below meth c H locs 0 0 Q (F0 m pc ls (.int x4 :: .int x3 :: .int x2 :: .int x1 :: .ref (G.2.1 44) :: rest)) := by
  exact vx_calli (vx_runV (C := RX6) (As := [.int x1, .int x2, .int x3, .int x4]) (rest := rest) ⟨hx, hb, hml, hown, (fun _ h => nomatch h : ∀ w ∈ ([] : List Cond), w.before args s = true)⟩ (k_X6_kind hl9 hF) ⟨gx_callB (n := 4) rfl rfl hlink (gw_49 hV) (gw_404 hV) (by decide +kernel) ⟨hfr, hlo⟩, gw_402 hV, gw_403 hV⟩ (gx_recvX (k := 44) (ci := 8) (T := TX6) hV hZ hw (by decide) rfl rfl) rfl rfl hsz rfl (lv_room hrest) hdg ⟨hc, hs⟩) hw.2.1 (fun _ _ h => h) (fun _ h => h) (fun _ _ h => h) (fun E ce q8 i t H1 locs1 ht _ hp hB _ _ hS h1 h2 h3 => by obtain ⟨rfl, hB⟩ := hB; exact kx i ce q8 H1 locs1 hp (gx_back hw ht hB hS) h1 h2 h3) (fun r _ t H1 locs1 ht _ hp hB _ _ hS => kk r H1 locs1 hp (gx_back hw ht hB hS))
set_option maxHeartbeats 4000000 in
set_option maxRecDepth 100000 in
theorem k_X6_lay {l : Launch} {G : gx_G} {M : gx_S} {o : Int64} {d : UInt64} {I V : gx_F} {x1 : Int32} {x2 : Int32} {x3 : Int32} {out : ((Int32 ⊕ Nat) × gx_F × gx_F)} (hl9 : l.stackTraces = false) (hF : f_X6_lay x1 x2 x3 I V = some out) : gx_KX l yX6_lay cX6_lay 5 (some .int) { frames := 6, cells := 1, slots := 6, locals := 143 } [.ref (G.2.1 44), .int x1, .int x2, .int x3] G (I, V) M o d (gx_QXi G out.1 (out.2.1, out.2.2) M o d) out.1 (out.2.1, out.2.2) := by
  refine gx_beginX (by decide +kernel) (Nat.le_of_ble_eq_true rfl) ?_
  intro p e s m below meth c hx hb hr hml hown hlocks htab hV hZ hw ls hl
  have hown : s.vm.findClass RX6 = some m.cls := hown
  have hl : lv_has ls 5 [(0, .ref (G.2.1 44)), (1, .int x1), (2, .int x2), (3, .int x3)] := hl
  unfold f_X6_lay at hF
  refine lv_aload_n (pc := 0) hx hb dX6_lay_0 rfl (lv_at hl 0 rfl) ?_
  refine gg_X6_1 (pc := 1) hx hb hown hV hw (gw_234 hV) dX6_lay_1 ?_
  refine lv_aload_n (pc := 4) hx hb dX6_lay_4 rfl (lv_at hl 0 rfl) ?_
  refine gg_X6_0 (pc := 5) hx hb hown hV hw (gw_233 hV) dX6_lay_5 ?_
  obtain ⟨uq_1, huq_1, hF⟩ := Option.bind_eq_some_iff.mp hF
  refine cl_X5_copyFrom (pc := 8) hx hb hml hown hV hw gx_w4 gx_w0 huq_1 (gw_369 hV) hl.1 (Nat.le_of_ble_eq_true rfl) (Nat.le_of_ble_eq_true rfl) (Nat.le_of_ble_eq_true rfl) dX6_lay_8 (fun H locs hw => ?_)
  refine lv_aload_n (pc := 11) hx hb dX6_lay_11 rfl (lv_at hl 0 rfl) ?_
  refine lv_aload_n (pc := 12) hx hb dX6_lay_12 rfl (lv_at hl 0 rfl) ?_
  refine gg_X6_7 (pc := 13) hx hb hown hV hw (gw_240 hV) dX6_lay_13 ?_
  refine lv_aload_n (pc := 16) hx hb dX6_lay_16 rfl (lv_at hl 0 rfl) ?_
  refine gg_X6_0 (pc := 17) hx hb hown hV hw (gw_233 hV) dX6_lay_17 ?_
  refine lv_iload_n (pc := 20) hx hb dX6_lay_20 rfl (lv_at hl 1 rfl) ?_
  refine lv_iload_n (pc := 21) hx hb dX6_lay_21 rfl (lv_at hl 2 rfl) ?_
  refine lv_iload_n (pc := 22) hx hb dX6_lay_22 rfl (lv_at hl 3 rfl) ?_
  obtain ⟨uq_2, huq_2, hF⟩ := Option.bind_eq_some_iff.mp hF
  refine cl_X3_layBrick (pc := 23) hx hb hml hown hV hw gx_w0 huq_2 (gw_507 hV) hl.1 (Nat.le_of_ble_eq_true rfl) (Nat.le_of_ble_eq_true rfl) (Nat.le_of_ble_eq_true rfl) dX6_lay_23 (fun H locs hw => ?_)
  obtain ⟨uq_3, huq_3, hF⟩ := Option.bind_eq_some_iff.mp hF
  refine cl_X6_settled (pc := 26) hx hb hml hown hV hw huq_3 (gw_416 hV) hl.1 (Nat.le_of_ble_eq_true rfl) (Nat.le_of_ble_eq_true rfl) (Nat.le_of_ble_eq_true rfl) dX6_lay_26 (fun H locs hw => ?_)
  refine lv_istore (pc := 29) (lv' := [(4, .int uq_3.1), (0, .ref (G.2.1 44)), (1, .int x1), (2, .int x2), (3, .int x3)]) hx hb dX6_lay_29 hl (by decide) rfl (fun ls hl => ?_)
  refine lv_iload (pc := 31) hx hb dX6_lay_31 (lv_at hl 0 rfl) ?_
  refine lv_iconst (pc := 33) (v := (-1)) hx hb dX6_lay_33 (by decide) ?_
  refine gx_icmp_ne (pc := 34) (tgt := 47) hx hb hF dX6_lay_34 (by decide) (fun hF => ?_) (fun hF => ?_)
  · refine lv_iload (pc := 47) hx hb dX6_lay_47 (lv_at hl 0 rfl) ?_
    cases hF
    exact gx_iretX hx hb hr hlocks hw dX6_lay_49
  cases hF
  exact gx_throwS (pc := 37) (i := 0) rfl (by decide +kernel) gx_kt0 hx hb hl9 hown hlocks htab hV hZ hw (hl.1.trans hml.symm) (List.mem_of_getElem? (i := 1) rfl) (by decide) (by decide) (by decide) (by decide) dX6_lay_37 dX6_lay_40 dX6_lay_41 dX6_lay_43 dX6_lay_46
set_option maxRecDepth 100000 in
theorem cx_X6_lay {l : Launch} {G : gx_G} {M : gx_S} {o : Int64} {d : UInt64} {I V : gx_F} {p : Program} {e : Env} {R : Room} {s : State} {m : MethodId} {args : Array Value} {below : List Frame} {meth : Method} {c : Code} {H : Heap} {locs : List Loc} {Q : State → Prop} {cc : ByteArray} {pc nL index : Nat} {ls : Array Slot} {rest : List Value} {own : String} {x1 : Int32} {x2 : Int32} {x3 : Int32} {out : ((Int32 ⊕ Nat) × gx_F × gx_F)} (hl9 : l.stackTraces = false) (hx : p.tables.exec = Jvm.exec) (hb : c.code = cc) (hml : c.maxLocals = nL) (hown : s.vm.findClass own = some m.cls) (hV : gx_V G s) (hZ : gx_Z G s s.heap) (hw : gx_at G (I, V) M o d s.heap H locs) (hF : f_X6_lay x1 x2 x3 I V = some out) (hlink : (Cond.methodLink own index yX6_lay).before args s = true) (hsz : ls.size = nL) (hfr : 7 ≤ R.frames) (hlo : 167 ≤ R.locals) (hrest : (rest.map fun v => v.category).sum ≤ 8) (hc : 1 ≤ R.cells) (hs : 6 ≤ R.slots) (hdg : decode cc pc = .ok (.invokevirtual index, 3))
    (kx : ∀ (i : Nat) (ce : Cell) (q8 : Addr) (H1 : Heap) (locs1 : List Loc), out.1 = .inr i → gx_at G (out.2.1, out.2.2) M o d s.heap H1 locs1 → H1[q8]? = some ce → ce.vm = .none → s.vm.findClass (gx_en i) = some ce.cls → vx_W p l e R s m args below meth c H1 locs1 1 6 Q (F0 m pc ls rest) q8)
    (kk : ∀ (q9 : Int32) (H1 : Heap) (locs1 : List Loc), out.1 = .inl q9 → gx_at G (out.2.1, out.2.2) M o d s.heap H1 locs1 → W p l e R s m args below meth c H1 locs1 1 6 Q (F0 m (pc + 3) ls (.int q9 :: rest))) : W p l e R s m args below meth c H locs 0 0 Q (F0 m pc ls (.int x3 :: .int x2 :: .int x1 :: .ref (G.2.1 44) :: rest)) := by
  exact vx_calli (vx_runV (C := RX6) (As := [.int x1, .int x2, .int x3]) (rest := rest) ⟨hx, hb, hml, hown, (fun _ h => nomatch h : ∀ w ∈ ([] : List Cond), w.before args s = true)⟩ (k_X6_lay hl9 hF) ⟨gx_callB (n := 3) rfl rfl hlink (gw_49 hV) (gw_506 hV) (by decide +kernel) ⟨hfr, hlo⟩, gw_504 hV, gw_505 hV⟩ (gx_recvX (k := 44) (ci := 8) (T := TX6) hV hZ hw (by decide) rfl rfl) rfl rfl hsz rfl (lv_room hrest) hdg ⟨hc, hs⟩) hw.2.1 (fun _ _ h => h) (fun _ h => h) (fun _ _ h => h) (fun E ce q8 i t H1 locs1 ht _ hp hB _ _ hS h1 h2 h3 => by obtain ⟨rfl, hB⟩ := hB; exact kx i ce q8 H1 locs1 hp (gx_back hw ht hB hS) h1 h2 h3) (fun r _ t H1 locs1 ht _ hp hB _ _ hS => kk r H1 locs1 hp (gx_back hw ht hB hS))
set_option maxHeartbeats 4000000 in
set_option maxRecDepth 100000 in
theorem k_X6_takeOut {l : Launch} {G : gx_G} {M : gx_S} {o : Int64} {d : UInt64} {I V : gx_F} {x1 : Int32} {out : ((Int32 ⊕ Nat) × gx_F × gx_F)} (hl9 : l.stackTraces = false) (hF : f_X6_takeOut x1 I V = some out) : gx_KX l yX6_takeOut cX6_takeOut 3 (some .int) { frames := 6, cells := 1, slots := 6, locals := 143 } [.ref (G.2.1 44), .int x1] G (I, V) M o d (gx_QXi G out.1 (out.2.1, out.2.2) M o d) out.1 (out.2.1, out.2.2) := by
  refine gx_beginX (by decide +kernel) (Nat.le_of_ble_eq_true rfl) ?_
  intro p e s m below meth c hx hb hr hml hown hlocks htab hV hZ hw ls hl
  have hown : s.vm.findClass RX6 = some m.cls := hown
  have hl : lv_has ls 3 [(0, .ref (G.2.1 44)), (1, .int x1)] := hl
  unfold f_X6_takeOut at hF
  refine lv_aload_n (pc := 0) hx hb dX6_takeOut_0 rfl (lv_at hl 0 rfl) ?_
  refine gg_X6_1 (pc := 1) hx hb hown hV hw (gw_234 hV) dX6_takeOut_1 ?_
  refine lv_aload_n (pc := 4) hx hb dX6_takeOut_4 rfl (lv_at hl 0 rfl) ?_
  refine gg_X6_0 (pc := 5) hx hb hown hV hw (gw_233 hV) dX6_takeOut_5 ?_
  obtain ⟨uq_1, huq_1, hF⟩ := Option.bind_eq_some_iff.mp hF
  refine cl_X5_copyFrom (pc := 8) hx hb hml hown hV hw gx_w4 gx_w0 huq_1 (gw_369 hV) hl.1 (Nat.le_of_ble_eq_true rfl) (Nat.le_of_ble_eq_true rfl) (Nat.le_of_ble_eq_true rfl) dX6_takeOut_8 (fun H locs hw => ?_)
  refine lv_aload_n (pc := 11) hx hb dX6_takeOut_11 rfl (lv_at hl 0 rfl) ?_
  refine lv_aload_n (pc := 12) hx hb dX6_takeOut_12 rfl (lv_at hl 0 rfl) ?_
  refine gg_X6_7 (pc := 13) hx hb hown hV hw (gw_240 hV) dX6_takeOut_13 ?_
  refine lv_aload_n (pc := 16) hx hb dX6_takeOut_16 rfl (lv_at hl 0 rfl) ?_
  refine gg_X6_0 (pc := 17) hx hb hown hV hw (gw_233 hV) dX6_takeOut_17 ?_
  refine lv_iload_n (pc := 20) hx hb dX6_takeOut_20 rfl (lv_at hl 1 rfl) ?_
  obtain ⟨uq_2, huq_2, hF⟩ := Option.bind_eq_some_iff.mp hF
  refine cl_X3_takeBrick (pc := 21) hx hb hml hown hV hw gx_w0 huq_2 (gw_540 hV) hl.1 (Nat.le_of_ble_eq_true rfl) (Nat.le_of_ble_eq_true rfl) (Nat.le_of_ble_eq_true rfl) dX6_takeOut_21 (fun H locs hw => ?_)
  obtain ⟨uq_3, huq_3, hF⟩ := Option.bind_eq_some_iff.mp hF
  refine cl_X6_settled (pc := 24) hx hb hml hown hV hw huq_3 (gw_416 hV) hl.1 (Nat.le_of_ble_eq_true rfl) (Nat.le_of_ble_eq_true rfl) (Nat.le_of_ble_eq_true rfl) dX6_takeOut_24 (fun H locs hw => ?_)
  refine lv_istore_n (pc := 27) (lv' := [(2, .int uq_3.1), (0, .ref (G.2.1 44)), (1, .int x1)]) hx hb dX6_takeOut_27 rfl hl (by decide) rfl (fun ls hl => ?_)
  refine lv_iload_n (pc := 28) hx hb dX6_takeOut_28 rfl (lv_at hl 0 rfl) ?_
  refine lv_iconst (pc := 29) (v := (-1)) hx hb dX6_takeOut_29 (by decide) ?_
  refine gx_icmp_ne (pc := 30) (tgt := 43) hx hb hF dX6_takeOut_30 (by decide) (fun hF => ?_) (fun hF => ?_)
  · refine lv_iload_n (pc := 43) hx hb dX6_takeOut_43 rfl (lv_at hl 0 rfl) ?_
    cases hF
    exact gx_iretX hx hb hr hlocks hw dX6_takeOut_44
  cases hF
  exact gx_throwS (pc := 33) (i := 0) rfl (by decide +kernel) gx_kt0 hx hb hl9 hown hlocks htab hV hZ hw (hl.1.trans hml.symm) (List.mem_of_getElem? (i := 2) rfl) (by decide) (by decide) (by decide) (by decide) dX6_takeOut_33 dX6_takeOut_36 dX6_takeOut_37 dX6_takeOut_39 dX6_takeOut_42
set_option maxRecDepth 100000 in
theorem cx_X6_takeOut {l : Launch} {G : gx_G} {M : gx_S} {o : Int64} {d : UInt64} {I V : gx_F} {p : Program} {e : Env} {R : Room} {s : State} {m : MethodId} {args : Array Value} {below : List Frame} {meth : Method} {c : Code} {H : Heap} {locs : List Loc} {Q : State → Prop} {cc : ByteArray} {pc nL index : Nat} {ls : Array Slot} {rest : List Value} {own : String} {x1 : Int32} {out : ((Int32 ⊕ Nat) × gx_F × gx_F)} (hl9 : l.stackTraces = false) (hx : p.tables.exec = Jvm.exec) (hb : c.code = cc) (hml : c.maxLocals = nL) (hown : s.vm.findClass own = some m.cls) (hV : gx_V G s) (hZ : gx_Z G s s.heap) (hw : gx_at G (I, V) M o d s.heap H locs) (hF : f_X6_takeOut x1 I V = some out) (hlink : (Cond.methodLink own index yX6_takeOut).before args s = true) (hsz : ls.size = nL) (hfr : 7 ≤ R.frames) (hlo : 165 ≤ R.locals) (hrest : (rest.map fun v => v.category).sum ≤ 8) (hc : 1 ≤ R.cells) (hs : 6 ≤ R.slots) (hdg : decode cc pc = .ok (.invokevirtual index, 3))
    (kx : ∀ (i : Nat) (ce : Cell) (q8 : Addr) (H1 : Heap) (locs1 : List Loc), out.1 = .inr i → gx_at G (out.2.1, out.2.2) M o d s.heap H1 locs1 → H1[q8]? = some ce → ce.vm = .none → s.vm.findClass (gx_en i) = some ce.cls → vx_W p l e R s m args below meth c H1 locs1 1 6 Q (F0 m pc ls rest) q8)
    (kk : ∀ (q9 : Int32) (H1 : Heap) (locs1 : List Loc), out.1 = .inl q9 → gx_at G (out.2.1, out.2.2) M o d s.heap H1 locs1 → W p l e R s m args below meth c H1 locs1 1 6 Q (F0 m (pc + 3) ls (.int q9 :: rest))) : W p l e R s m args below meth c H locs 0 0 Q (F0 m pc ls (.int x1 :: .ref (G.2.1 44) :: rest)) := by
  exact vx_calli (vx_runV (C := RX6) (As := [.int x1]) (rest := rest) ⟨hx, hb, hml, hown, (fun _ h => nomatch h : ∀ w ∈ ([] : List Cond), w.before args s = true)⟩ (k_X6_takeOut hl9 hF) ⟨gx_callB (n := 1) rfl rfl hlink (gw_49 hV) (gw_539 hV) (by decide +kernel) ⟨hfr, hlo⟩, gw_537 hV, gw_538 hV⟩ (gx_recvX (k := 44) (ci := 8) (T := TX6) hV hZ hw (by decide) rfl rfl) rfl rfl hsz rfl (lv_room hrest) hdg ⟨hc, hs⟩) hw.2.1 (fun _ _ h => h) (fun _ h => h) (fun _ _ h => h) (fun E ce q8 i t H1 locs1 ht _ hp hB _ _ hS h1 h2 h3 => by obtain ⟨rfl, hB⟩ := hB; exact kx i ce q8 H1 locs1 hp (gx_back hw ht hB hS) h1 h2 h3) (fun r _ t H1 locs1 ht _ hp hB _ _ hS => kk r H1 locs1 hp (gx_back hw ht hB hS))
set_option maxHeartbeats 4000000 in
set_option maxRecDepth 100000 in
theorem k_X6_grow {l : Launch} {G : gx_G} {M : gx_S} {o : Int64} {d : UInt64} {I V : gx_F} {x1 : Int32} {out : ((Int32 ⊕ Nat) × gx_F × gx_F)} (hl9 : l.stackTraces = false) (hF : f_X6_grow x1 I V = some out) : gx_KX l yX6_grow cX6_grow 3 (some .int) { frames := 6, cells := 1, slots := 6, locals := 146 } [.ref (G.2.1 44), .int x1] G (I, V) M o d (gx_QXi G out.1 (out.2.1, out.2.2) M o d) out.1 (out.2.1, out.2.2) := by
  refine gx_beginX (by decide +kernel) (Nat.le_of_ble_eq_true rfl) ?_
  intro p e s m below meth c hx hb hr hml hown hlocks htab hV hZ hw ls hl
  have hown : s.vm.findClass RX6 = some m.cls := hown
  have hl : lv_has ls 3 [(0, .ref (G.2.1 44)), (1, .int x1)] := hl
  unfold f_X6_grow at hF
  refine lv_aload_n (pc := 0) hx hb dX6_grow_0 rfl (lv_at hl 0 rfl) ?_
  refine gg_X6_1 (pc := 1) hx hb hown hV hw (gw_234 hV) dX6_grow_1 ?_
  refine lv_aload_n (pc := 4) hx hb dX6_grow_4 rfl (lv_at hl 0 rfl) ?_
  refine gg_X6_0 (pc := 5) hx hb hown hV hw (gw_233 hV) dX6_grow_5 ?_
  obtain ⟨uq_1, huq_1, hF⟩ := Option.bind_eq_some_iff.mp hF
  refine cl_X5_copyFrom (pc := 8) hx hb hml hown hV hw gx_w4 gx_w0 huq_1 (gw_369 hV) hl.1 (Nat.le_of_ble_eq_true rfl) (Nat.le_of_ble_eq_true rfl) (Nat.le_of_ble_eq_true rfl) dX6_grow_8 (fun H locs hw => ?_)
  refine lv_aload_n (pc := 11) hx hb dX6_grow_11 rfl (lv_at hl 0 rfl) ?_
  refine lv_aload_n (pc := 12) hx hb dX6_grow_12 rfl (lv_at hl 0 rfl) ?_
  refine gg_X6_7 (pc := 13) hx hb hown hV hw (gw_240 hV) dX6_grow_13 ?_
  refine lv_aload_n (pc := 16) hx hb dX6_grow_16 rfl (lv_at hl 0 rfl) ?_
  refine gg_X6_0 (pc := 17) hx hb hown hV hw (gw_233 hV) dX6_grow_17 ?_
  refine lv_iload_n (pc := 20) hx hb dX6_grow_20 rfl (lv_at hl 1 rfl) ?_
  obtain ⟨uq_2, huq_2, hF⟩ := Option.bind_eq_some_iff.mp hF
  refine cl_X3_growBricks (pc := 21) hx hb hml hown hV hw gx_w0 huq_2 (gw_565 hV) hl.1 (Nat.le_of_ble_eq_true rfl) (Nat.le_of_ble_eq_true rfl) (Nat.le_of_ble_eq_true rfl) dX6_grow_21 (fun H locs hw => ?_)
  obtain ⟨uq_3, huq_3, hF⟩ := Option.bind_eq_some_iff.mp hF
  refine cl_X6_settled (pc := 24) hx hb hml hown hV hw huq_3 (gw_416 hV) hl.1 (Nat.le_of_ble_eq_true rfl) (Nat.le_of_ble_eq_true rfl) (Nat.le_of_ble_eq_true rfl) dX6_grow_24 (fun H locs hw => ?_)
  refine lv_istore_n (pc := 27) (lv' := [(2, .int uq_3.1), (0, .ref (G.2.1 44)), (1, .int x1)]) hx hb dX6_grow_27 rfl hl (by decide) rfl (fun ls hl => ?_)
  refine lv_iload_n (pc := 28) hx hb dX6_grow_28 rfl (lv_at hl 0 rfl) ?_
  refine lv_iconst (pc := 29) (v := (-1)) hx hb dX6_grow_29 (by decide) ?_
  refine gx_icmp_ne (pc := 30) (tgt := 43) hx hb hF dX6_grow_30 (by decide) (fun hF => ?_) (fun hF => ?_)
  · refine lv_iload_n (pc := 43) hx hb dX6_grow_43 rfl (lv_at hl 0 rfl) ?_
    cases hF
    exact gx_iretX hx hb hr hlocks hw dX6_grow_44
  cases hF
  exact gx_throwS (pc := 33) (i := 0) rfl (by decide +kernel) gx_kt0 hx hb hl9 hown hlocks htab hV hZ hw (hl.1.trans hml.symm) (List.mem_of_getElem? (i := 3) rfl) (by decide) (by decide) (by decide) (by decide) dX6_grow_33 dX6_grow_36 dX6_grow_37 dX6_grow_39 dX6_grow_42
set_option maxRecDepth 100000 in
theorem cx_X6_grow {l : Launch} {G : gx_G} {M : gx_S} {o : Int64} {d : UInt64} {I V : gx_F} {p : Program} {e : Env} {R : Room} {s : State} {m : MethodId} {args : Array Value} {below : List Frame} {meth : Method} {c : Code} {H : Heap} {locs : List Loc} {Q : State → Prop} {cc : ByteArray} {pc nL index : Nat} {ls : Array Slot} {rest : List Value} {own : String} {x1 : Int32} {out : ((Int32 ⊕ Nat) × gx_F × gx_F)} (hl9 : l.stackTraces = false) (hx : p.tables.exec = Jvm.exec) (hb : c.code = cc) (hml : c.maxLocals = nL) (hown : s.vm.findClass own = some m.cls) (hV : gx_V G s) (hZ : gx_Z G s s.heap) (hw : gx_at G (I, V) M o d s.heap H locs) (hF : f_X6_grow x1 I V = some out) (hlink : (Cond.methodLink own index yX6_grow).before args s = true) (hsz : ls.size = nL) (hfr : 7 ≤ R.frames) (hlo : 168 ≤ R.locals) (hrest : (rest.map fun v => v.category).sum ≤ 8) (hc : 1 ≤ R.cells) (hs : 6 ≤ R.slots) (hdg : decode cc pc = .ok (.invokevirtual index, 3))
    (kx : ∀ (i : Nat) (ce : Cell) (q8 : Addr) (H1 : Heap) (locs1 : List Loc), out.1 = .inr i → gx_at G (out.2.1, out.2.2) M o d s.heap H1 locs1 → H1[q8]? = some ce → ce.vm = .none → s.vm.findClass (gx_en i) = some ce.cls → vx_W p l e R s m args below meth c H1 locs1 1 6 Q (F0 m pc ls rest) q8)
    (kk : ∀ (q9 : Int32) (H1 : Heap) (locs1 : List Loc), out.1 = .inl q9 → gx_at G (out.2.1, out.2.2) M o d s.heap H1 locs1 → W p l e R s m args below meth c H1 locs1 1 6 Q (F0 m (pc + 3) ls (.int q9 :: rest))) : W p l e R s m args below meth c H locs 0 0 Q (F0 m pc ls (.int x1 :: .ref (G.2.1 44) :: rest)) := by
  exact vx_calli (vx_runV (C := RX6) (As := [.int x1]) (rest := rest) ⟨hx, hb, hml, hown, (fun _ h => nomatch h : ∀ w ∈ ([] : List Cond), w.before args s = true)⟩ (k_X6_grow hl9 hF) ⟨gx_callB (n := 1) rfl rfl hlink (gw_49 hV) (gw_564 hV) (by decide +kernel) ⟨hfr, hlo⟩, gw_562 hV, gw_563 hV⟩ (gx_recvX (k := 44) (ci := 8) (T := TX6) hV hZ hw (by decide) rfl rfl) rfl rfl hsz rfl (lv_room hrest) hdg ⟨hc, hs⟩) hw.2.1 (fun _ _ h => h) (fun _ h => h) (fun _ _ h => h) (fun E ce q8 i t H1 locs1 ht _ hp hB _ _ hS h1 h2 h3 => by obtain ⟨rfl, hB⟩ := hB; exact kx i ce q8 H1 locs1 hp (gx_back hw ht hB hS) h1 h2 h3) (fun r _ t H1 locs1 ht _ hp hB _ _ hS => kk r H1 locs1 hp (gx_back hw ht hB hS))
set_option maxHeartbeats 4000000 in
set_option maxRecDepth 100000 in
theorem k_X6_strength {l : Launch} {G : gx_G} {M : gx_S} {o : Int64} {d : UInt64} {I V : gx_F} {x1 : Int32} {x2 : Int32} {out : ((Int32 ⊕ Nat) × gx_F × gx_F)} (hl9 : l.stackTraces = false) (hF : f_X6_strength x1 x2 I V = some out) : gx_KX l yX6_strength cX6_strength 4 (some .int) { frames := 6, cells := 1, slots := 6, locals := 143 } [.ref (G.2.1 44), .int x1, .int x2] G (I, V) M o d (gx_QXi G out.1 (out.2.1, out.2.2) M o d) out.1 (out.2.1, out.2.2) := by
  refine gx_beginX (by decide +kernel) (Nat.le_of_ble_eq_true rfl) ?_
  intro p e s m below meth c hx hb hr hml hown hlocks htab hV hZ hw ls hl
  have hown : s.vm.findClass RX6 = some m.cls := hown
  have hl : lv_has ls 4 [(0, .ref (G.2.1 44)), (1, .int x1), (2, .int x2)] := hl
  unfold f_X6_strength at hF
  refine lv_aload_n (pc := 0) hx hb dX6_strength_0 rfl (lv_at hl 0 rfl) ?_
  refine gg_X6_1 (pc := 1) hx hb hown hV hw (gw_234 hV) dX6_strength_1 ?_
  refine lv_aload_n (pc := 4) hx hb dX6_strength_4 rfl (lv_at hl 0 rfl) ?_
  refine gg_X6_0 (pc := 5) hx hb hown hV hw (gw_233 hV) dX6_strength_5 ?_
  obtain ⟨uq_1, huq_1, hF⟩ := Option.bind_eq_some_iff.mp hF
  refine cl_X5_copyFrom (pc := 8) hx hb hml hown hV hw gx_w4 gx_w0 huq_1 (gw_369 hV) hl.1 (Nat.le_of_ble_eq_true rfl) (Nat.le_of_ble_eq_true rfl) (Nat.le_of_ble_eq_true rfl) dX6_strength_8 (fun H locs hw => ?_)
  refine lv_aload_n (pc := 11) hx hb dX6_strength_11 rfl (lv_at hl 0 rfl) ?_
  refine lv_aload_n (pc := 12) hx hb dX6_strength_12 rfl (lv_at hl 0 rfl) ?_
  refine gg_X6_7 (pc := 13) hx hb hown hV hw (gw_240 hV) dX6_strength_13 ?_
  refine lv_aload_n (pc := 16) hx hb dX6_strength_16 rfl (lv_at hl 0 rfl) ?_
  refine gg_X6_0 (pc := 17) hx hb hown hV hw (gw_233 hV) dX6_strength_17 ?_
  refine lv_iload_n (pc := 20) hx hb dX6_strength_20 rfl (lv_at hl 1 rfl) ?_
  refine lv_iload_n (pc := 21) hx hb dX6_strength_21 rfl (lv_at hl 2 rfl) ?_
  obtain ⟨uq_2, huq_2, hF⟩ := Option.bind_eq_some_iff.mp hF
  refine cl_X3_setStrength (pc := 22) hx hb hml hown hV hw gx_w0 huq_2 (gw_579 hV) hl.1 (Nat.le_of_ble_eq_true rfl) (Nat.le_of_ble_eq_true rfl) (Nat.le_of_ble_eq_true rfl) dX6_strength_22 (fun H locs hw => ?_)
  obtain ⟨uq_3, huq_3, hF⟩ := Option.bind_eq_some_iff.mp hF
  refine cl_X6_settled (pc := 25) hx hb hml hown hV hw huq_3 (gw_416 hV) hl.1 (Nat.le_of_ble_eq_true rfl) (Nat.le_of_ble_eq_true rfl) (Nat.le_of_ble_eq_true rfl) dX6_strength_25 (fun H locs hw => ?_)
  refine lv_istore_n (pc := 28) (lv' := [(3, .int uq_3.1), (0, .ref (G.2.1 44)), (1, .int x1), (2, .int x2)]) hx hb dX6_strength_28 rfl hl (by decide) rfl (fun ls hl => ?_)
  refine lv_iload_n (pc := 29) hx hb dX6_strength_29 rfl (lv_at hl 0 rfl) ?_
  refine lv_iconst (pc := 30) (v := (-1)) hx hb dX6_strength_30 (by decide) ?_
  refine gx_icmp_ne (pc := 31) (tgt := 44) hx hb hF dX6_strength_31 (by decide) (fun hF => ?_) (fun hF => ?_)
  · refine lv_iload_n (pc := 44) hx hb dX6_strength_44 rfl (lv_at hl 0 rfl) ?_
    cases hF
    exact gx_iretX hx hb hr hlocks hw dX6_strength_45
  cases hF
  exact gx_throwS (pc := 34) (i := 0) rfl (by decide +kernel) gx_kt0 hx hb hl9 hown hlocks htab hV hZ hw (hl.1.trans hml.symm) (List.mem_of_getElem? (i := 4) rfl) (by decide) (by decide) (by decide) (by decide) dX6_strength_34 dX6_strength_37 dX6_strength_38 dX6_strength_40 dX6_strength_43
set_option maxRecDepth 100000 in
theorem cx_X6_strength {l : Launch} {G : gx_G} {M : gx_S} {o : Int64} {d : UInt64} {I V : gx_F} {p : Program} {e : Env} {R : Room} {s : State} {m : MethodId} {args : Array Value} {below : List Frame} {meth : Method} {c : Code} {H : Heap} {locs : List Loc} {Q : State → Prop} {cc : ByteArray} {pc nL index : Nat} {ls : Array Slot} {rest : List Value} {own : String} {x1 : Int32} {x2 : Int32} {out : ((Int32 ⊕ Nat) × gx_F × gx_F)} (hl9 : l.stackTraces = false) (hx : p.tables.exec = Jvm.exec) (hb : c.code = cc) (hml : c.maxLocals = nL) (hown : s.vm.findClass own = some m.cls) (hV : gx_V G s) (hZ : gx_Z G s s.heap) (hw : gx_at G (I, V) M o d s.heap H locs) (hF : f_X6_strength x1 x2 I V = some out) (hlink : (Cond.methodLink own index yX6_strength).before args s = true) (hsz : ls.size = nL) (hfr : 7 ≤ R.frames) (hlo : 166 ≤ R.locals) (hrest : (rest.map fun v => v.category).sum ≤ 8) (hc : 1 ≤ R.cells) (hs : 6 ≤ R.slots) (hdg : decode cc pc = .ok (.invokevirtual index, 3))
    (kx : ∀ (i : Nat) (ce : Cell) (q8 : Addr) (H1 : Heap) (locs1 : List Loc), out.1 = .inr i → gx_at G (out.2.1, out.2.2) M o d s.heap H1 locs1 → H1[q8]? = some ce → ce.vm = .none → s.vm.findClass (gx_en i) = some ce.cls → vx_W p l e R s m args below meth c H1 locs1 1 6 Q (F0 m pc ls rest) q8)
    (kk : ∀ (q9 : Int32) (H1 : Heap) (locs1 : List Loc), out.1 = .inl q9 → gx_at G (out.2.1, out.2.2) M o d s.heap H1 locs1 → W p l e R s m args below meth c H1 locs1 1 6 Q (F0 m (pc + 3) ls (.int q9 :: rest))) : W p l e R s m args below meth c H locs 0 0 Q (F0 m pc ls (.int x2 :: .int x1 :: .ref (G.2.1 44) :: rest)) := by
  exact vx_calli (vx_runV (C := RX6) (As := [.int x1, .int x2]) (rest := rest) ⟨hx, hb, hml, hown, (fun _ h => nomatch h : ∀ w ∈ ([] : List Cond), w.before args s = true)⟩ (k_X6_strength hl9 hF) ⟨gx_callB (n := 2) rfl rfl hlink (gw_49 hV) (gw_578 hV) (by decide +kernel) ⟨hfr, hlo⟩, gw_576 hV, gw_577 hV⟩ (gx_recvX (k := 44) (ci := 8) (T := TX6) hV hZ hw (by decide) rfl rfl) rfl rfl hsz rfl (lv_room hrest) hdg ⟨hc, hs⟩) hw.2.1 (fun _ _ h => h) (fun _ h => h) (fun _ _ h => h) (fun E ce q8 i t H1 locs1 ht _ hp hB _ _ hS h1 h2 h3 => by obtain ⟨rfl, hB⟩ := hB; exact kx i ce q8 H1 locs1 hp (gx_back hw ht hB hS) h1 h2 h3) (fun r _ t H1 locs1 ht _ hp hB _ _ hS => kk r H1 locs1 hp (gx_back hw ht hB hS))
set_option maxHeartbeats 4000000 in
set_option maxRecDepth 100000 in
theorem k_X6_need {l : Launch} {G : gx_G} {M : gx_S} {o : Int64} {d : UInt64} {I V : gx_F} {x1 : Int32} {out : ((Int32 ⊕ Nat) × gx_F × gx_F)} (hl9 : l.stackTraces = false) (hF : f_X6_need x1 I V = some out) : gx_KX l yX6_need cX6_need 3 (some .int) { frames := 6, cells := 1, slots := 6, locals := 143 } [.ref (G.2.1 44), .int x1] G (I, V) M o d (gx_QXi G out.1 (out.2.1, out.2.2) M o d) out.1 (out.2.1, out.2.2) := by
  refine gx_beginX (by decide +kernel) (Nat.le_of_ble_eq_true rfl) ?_
  intro p e s m below meth c hx hb hr hml hown hlocks htab hV hZ hw ls hl
  have hown : s.vm.findClass RX6 = some m.cls := hown
  have hl : lv_has ls 3 [(0, .ref (G.2.1 44)), (1, .int x1)] := hl
  unfold f_X6_need at hF
  refine lv_aload_n (pc := 0) hx hb dX6_need_0 rfl (lv_at hl 0 rfl) ?_
  refine gg_X6_1 (pc := 1) hx hb hown hV hw (gw_234 hV) dX6_need_1 ?_
  refine lv_aload_n (pc := 4) hx hb dX6_need_4 rfl (lv_at hl 0 rfl) ?_
  refine gg_X6_0 (pc := 5) hx hb hown hV hw (gw_233 hV) dX6_need_5 ?_
  obtain ⟨uq_1, huq_1, hF⟩ := Option.bind_eq_some_iff.mp hF
  refine cl_X5_copyFrom (pc := 8) hx hb hml hown hV hw gx_w4 gx_w0 huq_1 (gw_369 hV) hl.1 (Nat.le_of_ble_eq_true rfl) (Nat.le_of_ble_eq_true rfl) (Nat.le_of_ble_eq_true rfl) dX6_need_8 (fun H locs hw => ?_)
  refine lv_aload_n (pc := 11) hx hb dX6_need_11 rfl (lv_at hl 0 rfl) ?_
  refine lv_aload_n (pc := 12) hx hb dX6_need_12 rfl (lv_at hl 0 rfl) ?_
  refine gg_X6_7 (pc := 13) hx hb hown hV hw (gw_240 hV) dX6_need_13 ?_
  refine lv_aload_n (pc := 16) hx hb dX6_need_16 rfl (lv_at hl 0 rfl) ?_
  refine gg_X6_0 (pc := 17) hx hb hown hV hw (gw_233 hV) dX6_need_17 ?_
  refine lv_iload_n (pc := 20) hx hb dX6_need_20 rfl (lv_at hl 1 rfl) ?_
  obtain ⟨uq_2, huq_2, hF⟩ := Option.bind_eq_some_iff.mp hF
  refine cl_X3_setNeed (pc := 21) hx hb hml hown hV hw gx_w0 huq_2 (gw_591 hV) hl.1 (Nat.le_of_ble_eq_true rfl) (Nat.le_of_ble_eq_true rfl) (Nat.le_of_ble_eq_true rfl) dX6_need_21 (fun H locs hw => ?_)
  obtain ⟨uq_3, huq_3, hF⟩ := Option.bind_eq_some_iff.mp hF
  refine cl_X6_settled (pc := 24) hx hb hml hown hV hw huq_3 (gw_416 hV) hl.1 (Nat.le_of_ble_eq_true rfl) (Nat.le_of_ble_eq_true rfl) (Nat.le_of_ble_eq_true rfl) dX6_need_24 (fun H locs hw => ?_)
  refine lv_istore_n (pc := 27) (lv' := [(2, .int uq_3.1), (0, .ref (G.2.1 44)), (1, .int x1)]) hx hb dX6_need_27 rfl hl (by decide) rfl (fun ls hl => ?_)
  refine lv_iload_n (pc := 28) hx hb dX6_need_28 rfl (lv_at hl 0 rfl) ?_
  refine lv_iconst (pc := 29) (v := (-1)) hx hb dX6_need_29 (by decide) ?_
  refine gx_icmp_ne (pc := 30) (tgt := 43) hx hb hF dX6_need_30 (by decide) (fun hF => ?_) (fun hF => ?_)
  · refine lv_iload_n (pc := 43) hx hb dX6_need_43 rfl (lv_at hl 0 rfl) ?_
    cases hF
    exact gx_iretX hx hb hr hlocks hw dX6_need_44
  cases hF
  exact gx_throwS (pc := 33) (i := 0) rfl (by decide +kernel) gx_kt0 hx hb hl9 hown hlocks htab hV hZ hw (hl.1.trans hml.symm) (List.mem_of_getElem? (i := 5) rfl) (by decide) (by decide) (by decide) (by decide) dX6_need_33 dX6_need_36 dX6_need_37 dX6_need_39 dX6_need_42
set_option maxRecDepth 100000 in
theorem cx_X6_need {l : Launch} {G : gx_G} {M : gx_S} {o : Int64} {d : UInt64} {I V : gx_F} {p : Program} {e : Env} {R : Room} {s : State} {m : MethodId} {args : Array Value} {below : List Frame} {meth : Method} {c : Code} {H : Heap} {locs : List Loc} {Q : State → Prop} {cc : ByteArray} {pc nL index : Nat} {ls : Array Slot} {rest : List Value} {own : String} {x1 : Int32} {out : ((Int32 ⊕ Nat) × gx_F × gx_F)} (hl9 : l.stackTraces = false) (hx : p.tables.exec = Jvm.exec) (hb : c.code = cc) (hml : c.maxLocals = nL) (hown : s.vm.findClass own = some m.cls) (hV : gx_V G s) (hZ : gx_Z G s s.heap) (hw : gx_at G (I, V) M o d s.heap H locs) (hF : f_X6_need x1 I V = some out) (hlink : (Cond.methodLink own index yX6_need).before args s = true) (hsz : ls.size = nL) (hfr : 7 ≤ R.frames) (hlo : 165 ≤ R.locals) (hrest : (rest.map fun v => v.category).sum ≤ 8) (hc : 1 ≤ R.cells) (hs : 6 ≤ R.slots) (hdg : decode cc pc = .ok (.invokevirtual index, 3))
    (kx : ∀ (i : Nat) (ce : Cell) (q8 : Addr) (H1 : Heap) (locs1 : List Loc), out.1 = .inr i → gx_at G (out.2.1, out.2.2) M o d s.heap H1 locs1 → H1[q8]? = some ce → ce.vm = .none → s.vm.findClass (gx_en i) = some ce.cls → vx_W p l e R s m args below meth c H1 locs1 1 6 Q (F0 m pc ls rest) q8)
    (kk : ∀ (q9 : Int32) (H1 : Heap) (locs1 : List Loc), out.1 = .inl q9 → gx_at G (out.2.1, out.2.2) M o d s.heap H1 locs1 → W p l e R s m args below meth c H1 locs1 1 6 Q (F0 m (pc + 3) ls (.int q9 :: rest))) : W p l e R s m args below meth c H locs 0 0 Q (F0 m pc ls (.int x1 :: .ref (G.2.1 44) :: rest)) := by
  exact vx_calli (vx_runV (C := RX6) (As := [.int x1]) (rest := rest) ⟨hx, hb, hml, hown, (fun _ h => nomatch h : ∀ w ∈ ([] : List Cond), w.before args s = true)⟩ (k_X6_need hl9 hF) ⟨gx_callB (n := 1) rfl rfl hlink (gw_49 hV) (gw_590 hV) (by decide +kernel) ⟨hfr, hlo⟩, gw_588 hV, gw_589 hV⟩ (gx_recvX (k := 44) (ci := 8) (T := TX6) hV hZ hw (by decide) rfl rfl) rfl rfl hsz rfl (lv_room hrest) hdg ⟨hc, hs⟩) hw.2.1 (fun _ _ h => h) (fun _ h => h) (fun _ _ h => h) (fun E ce q8 i t H1 locs1 ht _ hp hB _ _ hS h1 h2 h3 => by obtain ⟨rfl, hB⟩ := hB; exact kx i ce q8 H1 locs1 hp (gx_back hw ht hB hS) h1 h2 h3) (fun r _ t H1 locs1 ht _ hp hB _ _ hS => kk r H1 locs1 hp (gx_back hw ht hB hS))
set_option maxHeartbeats 4000000 in
set_option maxRecDepth 100000 in
theorem k_X6_glueOf {l : Launch} {G : gx_G} {M : gx_S} {o : Int64} {d : UInt64} {I V : gx_F} {x1 : Int32} {x2 : Int32} {x3 : Int32} {out : (Int32 ⊕ Nat)} (hl9 : l.stackTraces = false) (hF : f_X6_glueOf x1 x2 x3 I V = some out) : gx_KX l yX6_glueOf cX6_glueOf 4 (some .int) { frames := 6, cells := 1, slots := 6, locals := 82 } [.ref (G.2.1 44), .int x1, .int x2, .int x3] G (I, V) M o d (gx_QXi G out (I, V) M o d) out (I, V) := by
  refine gx_beginX (by decide +kernel) (Nat.le_of_ble_eq_true rfl) ?_
  intro p e s m below meth c hx hb hr hml hown hlocks htab hV hZ hw ls hl
  have hown : s.vm.findClass RX6 = some m.cls := hown
  have hl : lv_has ls 4 [(0, .ref (G.2.1 44)), (1, .int x1), (2, .int x2), (3, .int x3)] := hl
  unfold f_X6_glueOf at hF
  refine lv_aload_n (pc := 0) hx hb dX6_glueOf_0 rfl (lv_at hl 0 rfl) ?_
  refine gg_X6_0 (pc := 1) hx hb hown hV hw (gw_233 hV) dX6_glueOf_1 ?_
  refine lv_iload_n (pc := 4) hx hb dX6_glueOf_4 rfl (lv_at hl 1 rfl) ?_
  obtain ⟨uq_1, huq_1, hF⟩ := Option.bind_eq_some_iff.mp hF
  refine cl_X5_hasKind (pc := 5) hx hb hml hown hV hw gx_w0 huq_1 (gw_628 hV) hl.1 (Nat.le_of_ble_eq_true rfl) (Nat.le_of_ble_eq_true rfl) (Nat.le_of_ble_eq_true rfl) dX6_glueOf_5 (fun H locs hw => ?_)
  refine gx_if_ne (pc := 8) (tgt := 21) hx hb hF dX6_glueOf_8 (by decide) (fun hF => ?_) (fun hF => ?_)
  · refine lv_iload_n (pc := 21) hx hb dX6_glueOf_21 rfl (lv_at hl 2 rfl) ?_
    obtain ⟨uq_2, huq_2, hF⟩ := Option.bind_eq_some_iff.mp hF
    refine cl_X6_isTurnOrSide (pc := 22) hx hb hml hown hV hw huq_2 (gw_642 hV) hl.1 (Nat.le_of_ble_eq_true rfl) (Nat.le_of_ble_eq_true rfl) (Nat.le_of_ble_eq_true rfl) dX6_glueOf_22 (fun H locs hw => ?_)
    refine gx_if_eq (pc := 25) (tgt := 35) hx hb hF dX6_glueOf_25 (by decide) (fun hF => ?_) (fun hF => ?_)
    · cases hF
      exact gx_throwS (pc := 35) (i := 2) rfl (by decide +kernel) gx_kt2 hx hb hl9 hown hlocks htab hV hZ hw (hl.1.trans hml.symm) (List.mem_of_getElem? (i := 7) rfl) (by decide) (by decide) (by decide) (by decide) dX6_glueOf_35 dX6_glueOf_38 dX6_glueOf_39 dX6_glueOf_41 dX6_glueOf_44
    refine lv_iload_n (pc := 28) hx hb dX6_glueOf_28 rfl (lv_at hl 3 rfl) ?_
    obtain ⟨uq_3, huq_3, hF⟩ := Option.bind_eq_some_iff.mp hF
    refine cl_X6_isTurnOrSide (pc := 29) hx hb hml hown hV hw huq_3 (gw_642 hV) hl.1 (Nat.le_of_ble_eq_true rfl) (Nat.le_of_ble_eq_true rfl) (Nat.le_of_ble_eq_true rfl) dX6_glueOf_29 (fun H locs hw => ?_)
    refine gx_if_ne (pc := 32) (tgt := 45) hx hb hF dX6_glueOf_32 (by decide) (fun hF => ?_) (fun hF => ?_)
    · refine lv_aload_n (pc := 45) hx hb dX6_glueOf_45 rfl (lv_at hl 0 rfl) ?_
      refine gg_X6_0 (pc := 46) hx hb hown hV hw (gw_233 hV) dX6_glueOf_46 ?_
      refine lv_iload_n (pc := 49) hx hb dX6_glueOf_49 rfl (lv_at hl 1 rfl) ?_
      refine lv_iload_n (pc := 50) hx hb dX6_glueOf_50 rfl (lv_at hl 2 rfl) ?_
      obtain ⟨uq_4, huq_4, hF⟩ := Option.bind_eq_some_iff.mp hF
      refine cl_X6_brickOf (pc := 51) hx hb hml hown hV hw huq_4 (gw_659 hV) hl.1 (Nat.le_of_ble_eq_true rfl) (Nat.le_of_ble_eq_true rfl) (Nat.le_of_ble_eq_true rfl) dX6_glueOf_51 (fun H locs hw => ?_)
      refine lv_iload_n (pc := 54) hx hb dX6_glueOf_54 rfl (lv_at hl 3 rfl) ?_
      obtain ⟨uq_5, huq_5, hF⟩ := Option.bind_eq_some_iff.mp hF
      refine cl_X5_glueOn (pc := 55) hx hb hml hown hV hw gx_w0 huq_5 (gw_660 hV) hl.1 (Nat.le_of_ble_eq_true rfl) (Nat.le_of_ble_eq_true rfl) (Nat.le_of_ble_eq_true rfl) dX6_glueOf_55 (fun H locs hw => ?_)
      cases hF
      exact gx_iretX hx hb hr hlocks hw dX6_glueOf_58
    cases hF
    exact gx_throwS (pc := 35) (i := 2) rfl (by decide +kernel) gx_kt2 hx hb hl9 hown hlocks htab hV hZ hw (hl.1.trans hml.symm) (List.mem_of_getElem? (i := 7) rfl) (by decide) (by decide) (by decide) (by decide) dX6_glueOf_35 dX6_glueOf_38 dX6_glueOf_39 dX6_glueOf_41 dX6_glueOf_44
  cases hF
  exact gx_throwS (pc := 11) (i := 1) rfl (by decide +kernel) gx_kt1 hx hb hl9 hown hlocks htab hV hZ hw (hl.1.trans hml.symm) (List.mem_of_getElem? (i := 6) rfl) (by decide) (by decide) (by decide) (by decide) dX6_glueOf_11 dX6_glueOf_14 dX6_glueOf_15 dX6_glueOf_17 dX6_glueOf_20
set_option maxRecDepth 100000 in
theorem cx_X6_glueOf {l : Launch} {G : gx_G} {M : gx_S} {o : Int64} {d : UInt64} {I V : gx_F} {p : Program} {e : Env} {R : Room} {s : State} {m : MethodId} {args : Array Value} {below : List Frame} {meth : Method} {c : Code} {H : Heap} {locs : List Loc} {Q : State → Prop} {cc : ByteArray} {pc nL index : Nat} {ls : Array Slot} {rest : List Value} {own : String} {x1 : Int32} {x2 : Int32} {x3 : Int32} {out : (Int32 ⊕ Nat)} (hl9 : l.stackTraces = false) (hx : p.tables.exec = Jvm.exec) (hb : c.code = cc) (hml : c.maxLocals = nL) (hown : s.vm.findClass own = some m.cls) (hV : gx_V G s) (hZ : gx_Z G s s.heap) (hw : gx_at G (I, V) M o d s.heap H locs) (hF : f_X6_glueOf x1 x2 x3 I V = some out) (hlink : (Cond.methodLink own index yX6_glueOf).before args s = true) (hsz : ls.size = nL) (hfr : 7 ≤ R.frames) (hlo : 105 ≤ R.locals) (hrest : (rest.map fun v => v.category).sum ≤ 8) (hc : 1 ≤ R.cells) (hs : 6 ≤ R.slots) (hdg : decode cc pc = .ok (.invokevirtual index, 3))
    (kx : ∀ (i : Nat) (ce : Cell) (q8 : Addr) (H1 : Heap) (locs1 : List Loc), out = .inr i → gx_at G (I, V) M o d s.heap H1 locs1 → H1[q8]? = some ce → ce.vm = .none → s.vm.findClass (gx_en i) = some ce.cls → vx_W p l e R s m args below meth c H1 locs1 1 6 Q (F0 m pc ls rest) q8)
    (kk : ∀ (q9 : Int32) (H1 : Heap) (locs1 : List Loc), out = .inl q9 → gx_at G (I, V) M o d s.heap H1 locs1 → W p l e R s m args below meth c H1 locs1 1 6 Q (F0 m (pc + 3) ls (.int q9 :: rest))) : W p l e R s m args below meth c H locs 0 0 Q (F0 m pc ls (.int x3 :: .int x2 :: .int x1 :: .ref (G.2.1 44) :: rest)) := by
  exact vx_calli (vx_runV (C := RX6) (As := [.int x1, .int x2, .int x3]) (rest := rest) ⟨hx, hb, hml, hown, (fun _ h => nomatch h : ∀ w ∈ ([] : List Cond), w.before args s = true)⟩ (k_X6_glueOf hl9 hF) ⟨gx_callB (n := 3) rfl rfl hlink (gw_49 hV) (gw_627 hV) (by decide +kernel) ⟨hfr, hlo⟩, gw_625 hV, gw_626 hV⟩ (gx_recvX (k := 44) (ci := 8) (T := TX6) hV hZ hw (by decide) rfl rfl) rfl rfl hsz rfl (lv_room hrest) hdg ⟨hc, hs⟩) hw.2.1 (fun _ _ h => h) (fun _ h => h) (fun _ _ h => h) (fun E ce q8 i t H1 locs1 ht _ hp hB _ _ hS h1 h2 h3 => by obtain ⟨rfl, hB⟩ := hB; exact kx i ce q8 H1 locs1 hp (gx_back hw ht hB hS) h1 h2 h3) (fun r _ t H1 locs1 ht _ hp hB _ _ hS => kk r H1 locs1 hp (gx_back hw ht hB hS))
set_option maxHeartbeats 4000000 in
set_option maxRecDepth 100000 in
theorem k_X6_strengthOf {l : Launch} {G : gx_G} {M : gx_S} {o : Int64} {d : UInt64} {I V : gx_F} {x1 : Int32} {out : (Int32 ⊕ Nat)} (hl9 : l.stackTraces = false) (hF : f_X6_strengthOf x1 I V = some out) : gx_KX l yX6_strengthOf cX6_strengthOf 2 (some .int) { frames := 6, cells := 1, slots := 6, locals := 82 } [.ref (G.2.1 44), .int x1] G (I, V) M o d (gx_QXi G out (I, V) M o d) out (I, V) := by
  refine gx_beginX (by decide +kernel) (Nat.le_of_ble_eq_true rfl) ?_
  intro p e s m below meth c hx hb hr hml hown hlocks htab hV hZ hw ls hl
  have hown : s.vm.findClass RX6 = some m.cls := hown
  have hl : lv_has ls 2 [(0, .ref (G.2.1 44)), (1, .int x1)] := hl
  unfold f_X6_strengthOf at hF
  refine lv_iload_n (pc := 0) hx hb dX6_strengthOf_0 rfl (lv_at hl 1 rfl) ?_
  refine gx_if_lt (pc := 1) (tgt := 10) hx hb hF dX6_strengthOf_1 (by decide) (fun hF => ?_) (fun hF => ?_)
  · cases hF
    exact gx_throwS (pc := 10) (i := 2) rfl (by decide +kernel) gx_kt2 hx hb hl9 hown hlocks htab hV hZ hw (hl.1.trans hml.symm) (List.mem_of_getElem? (i := 8) rfl) (by decide) (by decide) (by decide) (by decide) dX6_strengthOf_10 dX6_strengthOf_13 dX6_strengthOf_14 dX6_strengthOf_16 dX6_strengthOf_19
  refine lv_iload_n (pc := 4) hx hb dX6_strengthOf_4 rfl (lv_at hl 1 rfl) ?_
  refine lv_bipush (pc := 5) (v := 6) hx hb dX6_strengthOf_5 (by decide) ?_
  refine gx_icmp_le (pc := 7) (tgt := 20) hx hb hF dX6_strengthOf_7 (by decide) (fun hF => ?_) (fun hF => ?_)
  · refine lv_aload_n (pc := 20) hx hb dX6_strengthOf_20 rfl (lv_at hl 0 rfl) ?_
    refine gg_X6_0 (pc := 21) hx hb hown hV hw (gw_233 hV) dX6_strengthOf_21 ?_
    refine gg_X5_1 (pc := 24) hx hb hown hV hw gx_w0 (gw_88 hV) dX6_strengthOf_24 ?_
    refine lv_iload_n (pc := 27) hx hb dX6_strengthOf_27 rfl (lv_at hl 1 rfl) ?_
    refine ga_w2_ld (pc := 28) hx hb hV hw gx_w0 hF dX6_strengthOf_28 (fun _ hF => ?_)
    cases hF
    exact gx_iretX hx hb hr hlocks hw dX6_strengthOf_29
  cases hF
  exact gx_throwS (pc := 10) (i := 2) rfl (by decide +kernel) gx_kt2 hx hb hl9 hown hlocks htab hV hZ hw (hl.1.trans hml.symm) (List.mem_of_getElem? (i := 8) rfl) (by decide) (by decide) (by decide) (by decide) dX6_strengthOf_10 dX6_strengthOf_13 dX6_strengthOf_14 dX6_strengthOf_16 dX6_strengthOf_19
set_option maxRecDepth 100000 in
theorem cx_X6_strengthOf {l : Launch} {G : gx_G} {M : gx_S} {o : Int64} {d : UInt64} {I V : gx_F} {p : Program} {e : Env} {R : Room} {s : State} {m : MethodId} {args : Array Value} {below : List Frame} {meth : Method} {c : Code} {H : Heap} {locs : List Loc} {Q : State → Prop} {cc : ByteArray} {pc nL index : Nat} {ls : Array Slot} {rest : List Value} {own : String} {x1 : Int32} {out : (Int32 ⊕ Nat)} (hl9 : l.stackTraces = false) (hx : p.tables.exec = Jvm.exec) (hb : c.code = cc) (hml : c.maxLocals = nL) (hown : s.vm.findClass own = some m.cls) (hV : gx_V G s) (hZ : gx_Z G s s.heap) (hw : gx_at G (I, V) M o d s.heap H locs) (hF : f_X6_strengthOf x1 I V = some out) (hlink : (Cond.methodLink own index yX6_strengthOf).before args s = true) (hsz : ls.size = nL) (hfr : 7 ≤ R.frames) (hlo : 103 ≤ R.locals) (hrest : (rest.map fun v => v.category).sum ≤ 8) (hc : 1 ≤ R.cells) (hs : 6 ≤ R.slots) (hdg : decode cc pc = .ok (.invokevirtual index, 3))
    (kx : ∀ (i : Nat) (ce : Cell) (q8 : Addr) (H1 : Heap) (locs1 : List Loc), out = .inr i → gx_at G (I, V) M o d s.heap H1 locs1 → H1[q8]? = some ce → ce.vm = .none → s.vm.findClass (gx_en i) = some ce.cls → vx_W p l e R s m args below meth c H1 locs1 1 6 Q (F0 m pc ls rest) q8)
    (kk : ∀ (q9 : Int32) (H1 : Heap) (locs1 : List Loc), out = .inl q9 → gx_at G (I, V) M o d s.heap H1 locs1 → W p l e R s m args below meth c H1 locs1 1 6 Q (F0 m (pc + 3) ls (.int q9 :: rest))) : W p l e R s m args below meth c H locs 0 0 Q (F0 m pc ls (.int x1 :: .ref (G.2.1 44) :: rest)) := by
  exact vx_calli (vx_runV (C := RX6) (As := [.int x1]) (rest := rest) ⟨hx, hb, hml, hown, (fun _ h => nomatch h : ∀ w ∈ ([] : List Cond), w.before args s = true)⟩ (k_X6_strengthOf hl9 hF) ⟨gx_callB (n := 1) rfl rfl hlink (gw_49 hV) (gw_667 hV) (by decide +kernel) ⟨hfr, hlo⟩, gw_665 hV, gw_666 hV⟩ (gx_recvX (k := 44) (ci := 8) (T := TX6) hV hZ hw (by decide) rfl rfl) rfl rfl hsz rfl (lv_room hrest) hdg ⟨hc, hs⟩) hw.2.1 (fun _ _ h => h) (fun _ h => h) (fun _ _ h => h) (fun E ce q8 i t H1 locs1 ht _ hp hB _ _ hS h1 h2 h3 => by obtain ⟨rfl, hB⟩ := hB; exact kx i ce q8 H1 locs1 hp (gx_back hw ht hB hS) h1 h2 h3) (fun r _ t H1 locs1 ht _ hp hB _ _ hS => kk r H1 locs1 hp (gx_back hw ht hB hS))
set_option maxHeartbeats 4000000 in
set_option maxRecDepth 100000 in
theorem k_X6_brickAt {l : Launch} {G : gx_G} {M : gx_S} {o : Int64} {d : UInt64} {I V : gx_F} {x1 : Int32} {x2 : Int32} {out : (Int32 ⊕ Nat)} (hl9 : l.stackTraces = false) (hF : f_X6_brickAt x1 x2 I V = some out) : gx_KX l yX6_brickAt cX6_brickAt 4 (some .int) { frames := 6, cells := 1, slots := 6, locals := 82 } [.ref (G.2.1 44), .int x1, .int x2] G (I, V) M o d (gx_QXi G out (I, V) M o d) out (I, V) := by
  refine gx_beginX (by decide +kernel) (Nat.le_of_ble_eq_true rfl) ?_
  intro p e s m below meth c hx hb hr hml hown hlocks htab hV hZ hw ls hl
  have hown : s.vm.findClass RX6 = some m.cls := hown
  have hl : lv_has ls 4 [(0, .ref (G.2.1 44)), (1, .int x1), (2, .int x2)] := hl
  unfold f_X6_brickAt at hF
  refine lv_iload_n (pc := 0) hx hb dX6_brickAt_0 rfl (lv_at hl 1 rfl) ?_
  obtain ⟨uq_1, huq_1, hF⟩ := Option.bind_eq_some_iff.mp hF
  refine cl_X6_isPlace (pc := 1) hx hb hml hown hV hw huq_1 (gw_677 hV) hl.1 (Nat.le_of_ble_eq_true rfl) (Nat.le_of_ble_eq_true rfl) (Nat.le_of_ble_eq_true rfl) dX6_brickAt_1 (fun H locs hw => ?_)
  refine gx_if_ne (pc := 4) (tgt := 17) hx hb hF dX6_brickAt_4 (by decide) (fun hF => ?_) (fun hF => ?_)
  · refine lv_aload_n (pc := 17) hx hb dX6_brickAt_17 rfl (lv_at hl 0 rfl) ?_
    refine gg_X6_0 (pc := 18) hx hb hown hV hw (gw_233 hV) dX6_brickAt_18 ?_
    refine lv_iload_n (pc := 21) hx hb dX6_brickAt_21 rfl (lv_at hl 1 rfl) ?_
    obtain ⟨uq_2, huq_2, hF⟩ := Option.bind_eq_some_iff.mp hF
    refine cl_X5_brickOn (pc := 22) hx hb hml hown hV hw gx_w0 huq_2 (gw_679 hV) hl.1 (Nat.le_of_ble_eq_true rfl) (Nat.le_of_ble_eq_true rfl) (Nat.le_of_ble_eq_true rfl) dX6_brickAt_22 (fun H locs hw => ?_)
    refine lv_istore_n (pc := 25) (lv' := [(3, .int uq_2), (0, .ref (G.2.1 44)), (1, .int x1), (2, .int x2)]) hx hb dX6_brickAt_25 rfl hl (by decide) rfl (fun ls hl => ?_)
    refine lv_iload_n (pc := 26) hx hb dX6_brickAt_26 rfl (lv_at hl 0 rfl) ?_
    refine lv_iconst (pc := 27) (v := (-1)) hx hb dX6_brickAt_27 (by decide) ?_
    refine gx_icmp_ne (pc := 28) (tgt := 41) hx hb hF dX6_brickAt_28 (by decide) (fun hF => ?_) (fun hF => ?_)
    · refine lv_iload_n (pc := 41) hx hb dX6_brickAt_41 rfl (lv_at hl 3 rfl) ?_
      refine gx_if_eq (pc := 42) (tgt := 52) hx hb hF dX6_brickAt_42 (by decide) (fun hF => ?_) (fun hF => ?_)
      · refine lv_iload_n (pc := 52) hx hb dX6_brickAt_52 rfl (lv_at hl 0 rfl) ?_
        obtain ⟨uq_3, huq_3, hF⟩ := Option.bind_eq_some_iff.mp hF
        refine cl_X6_kindOf (pc := 53) hx hb hml hown hV hw huq_3 (gw_699 hV) hl.1 (Nat.le_of_ble_eq_true rfl) (Nat.le_of_ble_eq_true rfl) (Nat.le_of_ble_eq_true rfl) dX6_brickAt_53 (fun H locs hw => ?_)
        cases hF
        exact gx_iretX hx hb hr hlocks hw dX6_brickAt_56
      refine lv_iload_n (pc := 45) hx hb dX6_brickAt_45 rfl (lv_at hl 0 rfl) ?_
      obtain ⟨uq_4, huq_4, hF⟩ := Option.bind_eq_some_iff.mp hF
      refine cl_X6_turnOf (pc := 46) hx hb hml hown hV hw huq_4 (gw_696 hV) hl.1 (Nat.le_of_ble_eq_true rfl) (Nat.le_of_ble_eq_true rfl) (Nat.le_of_ble_eq_true rfl) dX6_brickAt_46 (fun H locs hw => ?_)
      refine lv_goto (pc := 49) (tgt := 56) hx hb dX6_brickAt_49 (by decide) ?_
      cases hF
      exact gx_iretX hx hb hr hlocks hw dX6_brickAt_56
    cases hF
    exact gx_throwNS (pc := 31) hx hb hl9 hown hlocks htab hV hZ hw (hl.1.trans hml.symm) (List.mem_of_getElem? (i := 10) rfl) (by decide) (by decide) (by decide) (by decide) dX6_brickAt_31 dX6_brickAt_34 dX6_brickAt_35 dX6_brickAt_37 dX6_brickAt_40
  cases hF
  exact gx_throwS (pc := 7) (i := 1) rfl (by decide +kernel) gx_kt1 hx hb hl9 hown hlocks htab hV hZ hw (hl.1.trans hml.symm) (List.mem_of_getElem? (i := 9) rfl) (by decide) (by decide) (by decide) (by decide) dX6_brickAt_7 dX6_brickAt_10 dX6_brickAt_11 dX6_brickAt_13 dX6_brickAt_16
set_option maxRecDepth 100000 in
theorem cx_X6_brickAt {l : Launch} {G : gx_G} {M : gx_S} {o : Int64} {d : UInt64} {I V : gx_F} {p : Program} {e : Env} {R : Room} {s : State} {m : MethodId} {args : Array Value} {below : List Frame} {meth : Method} {c : Code} {H : Heap} {locs : List Loc} {Q : State → Prop} {cc : ByteArray} {pc nL index : Nat} {ls : Array Slot} {rest : List Value} {own : String} {x1 : Int32} {x2 : Int32} {out : (Int32 ⊕ Nat)} (hl9 : l.stackTraces = false) (hx : p.tables.exec = Jvm.exec) (hb : c.code = cc) (hml : c.maxLocals = nL) (hown : s.vm.findClass own = some m.cls) (hV : gx_V G s) (hZ : gx_Z G s s.heap) (hw : gx_at G (I, V) M o d s.heap H locs) (hF : f_X6_brickAt x1 x2 I V = some out) (hlink : (Cond.methodLink own index yX6_brickAt).before args s = true) (hsz : ls.size = nL) (hfr : 7 ≤ R.frames) (hlo : 105 ≤ R.locals) (hrest : (rest.map fun v => v.category).sum ≤ 8) (hc : 1 ≤ R.cells) (hs : 6 ≤ R.slots) (hdg : decode cc pc = .ok (.invokevirtual index, 3))
    (kx : ∀ (i : Nat) (ce : Cell) (q8 : Addr) (H1 : Heap) (locs1 : List Loc), out = .inr i → gx_at G (I, V) M o d s.heap H1 locs1 → H1[q8]? = some ce → ce.vm = .none → s.vm.findClass (gx_en i) = some ce.cls → vx_W p l e R s m args below meth c H1 locs1 1 6 Q (F0 m pc ls rest) q8)
    (kk : ∀ (q9 : Int32) (H1 : Heap) (locs1 : List Loc), out = .inl q9 → gx_at G (I, V) M o d s.heap H1 locs1 → W p l e R s m args below meth c H1 locs1 1 6 Q (F0 m (pc + 3) ls (.int q9 :: rest))) : W p l e R s m args below meth c H locs 0 0 Q (F0 m pc ls (.int x2 :: .int x1 :: .ref (G.2.1 44) :: rest)) := by
  exact vx_calli (vx_runV (C := RX6) (As := [.int x1, .int x2]) (rest := rest) ⟨hx, hb, hml, hown, (fun _ h => nomatch h : ∀ w ∈ ([] : List Cond), w.before args s = true)⟩ (k_X6_brickAt hl9 hF) ⟨gx_callB (n := 2) rfl rfl hlink (gw_49 hV) (gw_676 hV) (by decide +kernel) ⟨hfr, hlo⟩, gw_674 hV, gw_675 hV⟩ (gx_recvX (k := 44) (ci := 8) (T := TX6) hV hZ hw (by decide) rfl rfl) rfl rfl hsz rfl (lv_room hrest) hdg ⟨hc, hs⟩) hw.2.1 (fun _ _ h => h) (fun _ h => h) (fun _ _ h => h) (fun E ce q8 i t H1 locs1 ht _ hp hB _ _ hS h1 h2 h3 => by obtain ⟨rfl, hB⟩ := hB; exact kx i ce q8 H1 locs1 hp (gx_back hw ht hB hS) h1 h2 h3) (fun r _ t H1 locs1 ht _ hp hB _ _ hS => kk r H1 locs1 hp (gx_back hw ht hB hS))
set_option maxHeartbeats 4000000 in
set_option maxRecDepth 100000 in
theorem k_X6_seed {l : Launch} {G : gx_G} {M : gx_S} {o : Int64} {d : UInt64} {I V : gx_F} {out : (Int32 ⊕ Nat)} (hl9 : l.stackTraces = false) (hF : f_X6_seed I V = some out) : gx_KX l yX6_seed cX6_seed 1 (some .int) { frames := 6, cells := 1, slots := 6, locals := 82 } [.ref (G.2.1 44)] G (I, V) M o d (gx_QXi G out (I, V) M o d) out (I, V) := by
  refine gx_beginX (by decide +kernel) (Nat.le_of_ble_eq_true rfl) ?_
  intro p e s m below meth c hx hb hr hml hown hlocks htab hV hZ hw ls hl
  have hown : s.vm.findClass RX6 = some m.cls := hown
  have hl : lv_has ls 1 [(0, .ref (G.2.1 44))] := hl
  unfold f_X6_seed at hF
  refine lv_aload_n (pc := 0) hx hb dX6_seed_0 rfl (lv_at hl 0 rfl) ?_
  refine gg_X6_0 (pc := 1) hx hb hown hV hw (gw_233 hV) dX6_seed_1 ?_
  refine gg_X5_5 (pc := 4) hx hb hown hV hw gx_w0 (gw_101 hV) dX6_seed_4 ?_
  refine lv_iconst (pc := 7) (v := (-1)) hx hb dX6_seed_7 (by decide) ?_
  refine gx_icmp_ne (pc := 8) (tgt := 21) hx hb hF dX6_seed_8 (by decide) (fun hF => ?_) (fun hF => ?_)
  · refine lv_aload_n (pc := 21) hx hb dX6_seed_21 rfl (lv_at hl 0 rfl) ?_
    refine gg_X6_0 (pc := 22) hx hb hown hV hw (gw_233 hV) dX6_seed_22 ?_
    refine gg_X5_5 (pc := 25) hx hb hown hV hw gx_w0 (gw_101 hV) dX6_seed_25 ?_
    cases hF
    exact gx_iretX hx hb hr hlocks hw dX6_seed_28
  cases hF
  exact gx_throwNS (pc := 11) hx hb hl9 hown hlocks htab hV hZ hw (hl.1.trans hml.symm) (List.mem_of_getElem? (i := 11) rfl) (by decide) (by decide) (by decide) (by decide) dX6_seed_11 dX6_seed_14 dX6_seed_15 dX6_seed_17 dX6_seed_20
set_option maxRecDepth 100000 in
theorem cx_X6_seed {l : Launch} {G : gx_G} {M : gx_S} {o : Int64} {d : UInt64} {I V : gx_F} {p : Program} {e : Env} {R : Room} {s : State} {m : MethodId} {args : Array Value} {below : List Frame} {meth : Method} {c : Code} {H : Heap} {locs : List Loc} {Q : State → Prop} {cc : ByteArray} {pc nL index : Nat} {ls : Array Slot} {rest : List Value} {own : String} {out : (Int32 ⊕ Nat)} (hl9 : l.stackTraces = false) (hx : p.tables.exec = Jvm.exec) (hb : c.code = cc) (hml : c.maxLocals = nL) (hown : s.vm.findClass own = some m.cls) (hV : gx_V G s) (hZ : gx_Z G s s.heap) (hw : gx_at G (I, V) M o d s.heap H locs) (hF : f_X6_seed I V = some out) (hlink : (Cond.methodLink own index yX6_seed).before args s = true) (hsz : ls.size = nL) (hfr : 7 ≤ R.frames) (hlo : 102 ≤ R.locals) (hrest : (rest.map fun v => v.category).sum ≤ 8) (hc : 1 ≤ R.cells) (hs : 6 ≤ R.slots) (hdg : decode cc pc = .ok (.invokevirtual index, 3))
    (kx : ∀ (i : Nat) (ce : Cell) (q8 : Addr) (H1 : Heap) (locs1 : List Loc), out = .inr i → gx_at G (I, V) M o d s.heap H1 locs1 → H1[q8]? = some ce → ce.vm = .none → s.vm.findClass (gx_en i) = some ce.cls → vx_W p l e R s m args below meth c H1 locs1 1 6 Q (F0 m pc ls rest) q8)
    (kk : ∀ (q9 : Int32) (H1 : Heap) (locs1 : List Loc), out = .inl q9 → gx_at G (I, V) M o d s.heap H1 locs1 → W p l e R s m args below meth c H1 locs1 1 6 Q (F0 m (pc + 3) ls (.int q9 :: rest))) : W p l e R s m args below meth c H locs 0 0 Q (F0 m pc ls (.ref (G.2.1 44) :: rest)) := by
  exact vx_calli (vx_runV (C := RX6) (As := []) (rest := rest) ⟨hx, hb, hml, hown, (fun _ h => nomatch h : ∀ w ∈ ([] : List Cond), w.before args s = true)⟩ (k_X6_seed hl9 hF) ⟨gx_callB (n := 0) rfl rfl hlink (gw_49 hV) (gw_706 hV) (by decide +kernel) ⟨hfr, hlo⟩, gw_704 hV, gw_705 hV⟩ (gx_recvX (k := 44) (ci := 8) (T := TX6) hV hZ hw (by decide) rfl rfl) rfl rfl hsz rfl (lv_room hrest) hdg ⟨hc, hs⟩) hw.2.1 (fun _ _ h => h) (fun _ h => h) (fun _ _ h => h) (fun E ce q8 i t H1 locs1 ht _ hp hB _ _ hS h1 h2 h3 => by obtain ⟨rfl, hB⟩ := hB; exact kx i ce q8 H1 locs1 hp (gx_back hw ht hB hS) h1 h2 h3) (fun r _ t H1 locs1 ht _ hp hB _ _ hS => kk r H1 locs1 hp (gx_back hw ht hB hS))
set_option maxHeartbeats 4000000 in
set_option maxRecDepth 100000 in
theorem k_X6_hold {l : Launch} {G : gx_G} {M : gx_S} {o : Int64} {d : UInt64} {I V : gx_F} {x1 : Int32} {out : (Int32 ⊕ Nat)} (hl9 : l.stackTraces = false) (hF : f_X6_hold x1 I V = some out) : gx_KX l yX6_hold cX6_hold 3 (some .int) { frames := 6, cells := 1, slots := 6, locals := 82 } [.ref (G.2.1 44), .int x1] G (I, V) M o d (gx_QXi G out (I, V) M o d) out (I, V) := by
  refine gx_beginX (by decide +kernel) (Nat.le_of_ble_eq_true rfl) ?_
  intro p e s m below meth c hx hb hr hml hown hlocks htab hV hZ hw ls hl
  have hown : s.vm.findClass RX6 = some m.cls := hown
  have hl : lv_has ls 3 [(0, .ref (G.2.1 44)), (1, .int x1)] := hl
  unfold f_X6_hold at hF
  refine lv_iload_n (pc := 0) hx hb dX6_hold_0 rfl (lv_at hl 1 rfl) ?_
  obtain ⟨uq_1, huq_1, hF⟩ := Option.bind_eq_some_iff.mp hF
  refine cl_X6_isPlace (pc := 1) hx hb hml hown hV hw huq_1 (gw_677 hV) hl.1 (Nat.le_of_ble_eq_true rfl) (Nat.le_of_ble_eq_true rfl) (Nat.le_of_ble_eq_true rfl) dX6_hold_1 (fun H locs hw => ?_)
  refine gx_if_ne (pc := 4) (tgt := 17) hx hb hF dX6_hold_4 (by decide) (fun hF => ?_) (fun hF => ?_)
  · refine lv_aload_n (pc := 17) hx hb dX6_hold_17 rfl (lv_at hl 0 rfl) ?_
    refine gg_X6_0 (pc := 18) hx hb hown hV hw (gw_233 hV) dX6_hold_18 ?_
    refine lv_iload_n (pc := 21) hx hb dX6_hold_21 rfl (lv_at hl 1 rfl) ?_
    obtain ⟨uq_2, huq_2, hF⟩ := Option.bind_eq_some_iff.mp hF
    refine cl_X5_brickOn (pc := 22) hx hb hml hown hV hw gx_w0 huq_2 (gw_679 hV) hl.1 (Nat.le_of_ble_eq_true rfl) (Nat.le_of_ble_eq_true rfl) (Nat.le_of_ble_eq_true rfl) dX6_hold_22 (fun H locs hw => ?_)
    refine lv_istore_n (pc := 25) (lv' := [(2, .int uq_2), (0, .ref (G.2.1 44)), (1, .int x1)]) hx hb dX6_hold_25 rfl hl (by decide) rfl (fun ls hl => ?_)
    refine lv_iload_n (pc := 26) hx hb dX6_hold_26 rfl (lv_at hl 0 rfl) ?_
    refine lv_iconst (pc := 27) (v := (-1)) hx hb dX6_hold_27 (by decide) ?_
    refine gx_icmp_ne (pc := 28) (tgt := 41) hx hb hF dX6_hold_28 (by decide) (fun hF => ?_) (fun hF => ?_)
    · refine lv_aload_n (pc := 41) hx hb dX6_hold_41 rfl (lv_at hl 1 rfl) ?_
      refine gg_X6_0 (pc := 42) hx hb hown hV hw (gw_233 hV) dX6_hold_42 ?_
      refine lv_iload_n (pc := 45) hx hb dX6_hold_45 rfl (lv_at hl 0 rfl) ?_
      refine lv_iload_n (pc := 46) hx hb dX6_hold_46 rfl (lv_at hl 2 rfl) ?_
      obtain ⟨uq_3, huq_3, hF⟩ := Option.bind_eq_some_iff.mp hF
      refine cl_X5_holdFor (pc := 47) hx hb hml hown hV hw gx_w0 huq_3 (gw_715 hV) hl.1 (Nat.le_of_ble_eq_true rfl) (Nat.le_of_ble_eq_true rfl) (Nat.le_of_ble_eq_true rfl) dX6_hold_47 (fun H locs hw => ?_)
      cases hF
      exact gx_iretX hx hb hr hlocks hw dX6_hold_50
    cases hF
    exact gx_throwNS (pc := 31) hx hb hl9 hown hlocks htab hV hZ hw (hl.1.trans hml.symm) (List.mem_of_getElem? (i := 10) rfl) (by decide) (by decide) (by decide) (by decide) dX6_hold_31 dX6_hold_34 dX6_hold_35 dX6_hold_37 dX6_hold_40
  cases hF
  exact gx_throwS (pc := 7) (i := 1) rfl (by decide +kernel) gx_kt1 hx hb hl9 hown hlocks htab hV hZ hw (hl.1.trans hml.symm) (List.mem_of_getElem? (i := 9) rfl) (by decide) (by decide) (by decide) (by decide) dX6_hold_7 dX6_hold_10 dX6_hold_11 dX6_hold_13 dX6_hold_16
set_option maxRecDepth 100000 in
theorem cx_X6_hold {l : Launch} {G : gx_G} {M : gx_S} {o : Int64} {d : UInt64} {I V : gx_F} {p : Program} {e : Env} {R : Room} {s : State} {m : MethodId} {args : Array Value} {below : List Frame} {meth : Method} {c : Code} {H : Heap} {locs : List Loc} {Q : State → Prop} {cc : ByteArray} {pc nL index : Nat} {ls : Array Slot} {rest : List Value} {own : String} {x1 : Int32} {out : (Int32 ⊕ Nat)} (hl9 : l.stackTraces = false) (hx : p.tables.exec = Jvm.exec) (hb : c.code = cc) (hml : c.maxLocals = nL) (hown : s.vm.findClass own = some m.cls) (hV : gx_V G s) (hZ : gx_Z G s s.heap) (hw : gx_at G (I, V) M o d s.heap H locs) (hF : f_X6_hold x1 I V = some out) (hlink : (Cond.methodLink own index yX6_hold).before args s = true) (hsz : ls.size = nL) (hfr : 7 ≤ R.frames) (hlo : 104 ≤ R.locals) (hrest : (rest.map fun v => v.category).sum ≤ 8) (hc : 1 ≤ R.cells) (hs : 6 ≤ R.slots) (hdg : decode cc pc = .ok (.invokevirtual index, 3))
    (kx : ∀ (i : Nat) (ce : Cell) (q8 : Addr) (H1 : Heap) (locs1 : List Loc), out = .inr i → gx_at G (I, V) M o d s.heap H1 locs1 → H1[q8]? = some ce → ce.vm = .none → s.vm.findClass (gx_en i) = some ce.cls → vx_W p l e R s m args below meth c H1 locs1 1 6 Q (F0 m pc ls rest) q8)
    (kk : ∀ (q9 : Int32) (H1 : Heap) (locs1 : List Loc), out = .inl q9 → gx_at G (I, V) M o d s.heap H1 locs1 → W p l e R s m args below meth c H1 locs1 1 6 Q (F0 m (pc + 3) ls (.int q9 :: rest))) : W p l e R s m args below meth c H locs 0 0 Q (F0 m pc ls (.int x1 :: .ref (G.2.1 44) :: rest)) := by
  exact vx_calli (vx_runV (C := RX6) (As := [.int x1]) (rest := rest) ⟨hx, hb, hml, hown, (fun _ h => nomatch h : ∀ w ∈ ([] : List Cond), w.before args s = true)⟩ (k_X6_hold hl9 hF) ⟨gx_callB (n := 1) rfl rfl hlink (gw_49 hV) (gw_714 hV) (by decide +kernel) ⟨hfr, hlo⟩, gw_712 hV, gw_713 hV⟩ (gx_recvX (k := 44) (ci := 8) (T := TX6) hV hZ hw (by decide) rfl rfl) rfl rfl hsz rfl (lv_room hrest) hdg ⟨hc, hs⟩) hw.2.1 (fun _ _ h => h) (fun _ h => h) (fun _ _ h => h) (fun E ce q8 i t H1 locs1 ht _ hp hB _ _ hS h1 h2 h3 => by obtain ⟨rfl, hB⟩ := hB; exact kx i ce q8 H1 locs1 hp (gx_back hw ht hB hS) h1 h2 h3) (fun r _ t H1 locs1 ht _ hp hB _ _ hS => kk r H1 locs1 hp (gx_back hw ht hB hS))
set_option maxHeartbeats 4000000 in
set_option maxRecDepth 100000 in
theorem k_X6_holdAgain {l : Launch} {G : gx_G} {M : gx_S} {o : Int64} {d : UInt64} {I V : gx_F} {x1 : Int32} {out : (Int32 ⊕ Nat)} (hl9 : l.stackTraces = false) (hF : f_X6_holdAgain x1 I V = some out) : gx_KX l yX6_holdAgain cX6_holdAgain 2 (some .int) { frames := 6, cells := 1, slots := 6, locals := 92 } [.ref (G.2.1 44), .int x1] G (I, V) M o d (gx_QXi G out (I, V) M o d) out (I, V) := by
  refine gx_beginX (by decide +kernel) (Nat.le_of_ble_eq_true rfl) ?_
  intro p e s m below meth c hx hb hr hml hown hlocks htab hV hZ hw ls hl
  have hown : s.vm.findClass RX6 = some m.cls := hown
  have hl : lv_has ls 2 [(0, .ref (G.2.1 44)), (1, .int x1)] := hl
  unfold f_X6_holdAgain at hF
  refine lv_iload_n (pc := 0) hx hb dX6_holdAgain_0 rfl (lv_at hl 1 rfl) ?_
  obtain ⟨uq_1, huq_1, hF⟩ := Option.bind_eq_some_iff.mp hF
  refine cl_X6_isPlace (pc := 1) hx hb hml hown hV hw huq_1 (gw_677 hV) hl.1 (Nat.le_of_ble_eq_true rfl) (Nat.le_of_ble_eq_true rfl) (Nat.le_of_ble_eq_true rfl) dX6_holdAgain_1 (fun H locs hw => ?_)
  refine gx_if_ne (pc := 4) (tgt := 17) hx hb hF dX6_holdAgain_4 (by decide) (fun hF => ?_) (fun hF => ?_)
  · refine lv_aload_n (pc := 17) hx hb dX6_holdAgain_17 rfl (lv_at hl 0 rfl) ?_
    refine gg_X6_0 (pc := 18) hx hb hown hV hw (gw_233 hV) dX6_holdAgain_18 ?_
    refine lv_iload_n (pc := 21) hx hb dX6_holdAgain_21 rfl (lv_at hl 1 rfl) ?_
    obtain ⟨uq_2, huq_2, hF⟩ := Option.bind_eq_some_iff.mp hF
    refine cl_X5_isFree (pc := 22) hx hb hml hown hV hw gx_w0 huq_2 (gw_723 hV) hl.1 (Nat.le_of_ble_eq_true rfl) (Nat.le_of_ble_eq_true rfl) (Nat.le_of_ble_eq_true rfl) dX6_holdAgain_22 (fun H locs hw => ?_)
    refine gx_if_eq (pc := 25) (tgt := 38) hx hb hF dX6_holdAgain_25 (by decide) (fun hF => ?_) (fun hF => ?_)
    · refine lv_aload_n (pc := 38) hx hb dX6_holdAgain_38 rfl (lv_at hl 0 rfl) ?_
      refine gg_X6_0 (pc := 39) hx hb hown hV hw (gw_233 hV) dX6_holdAgain_39 ?_
      refine lv_iconst (pc := 42) (v := (-1)) hx hb dX6_holdAgain_42 (by decide) ?_
      obtain ⟨uq_3, huq_3, hF⟩ := Option.bind_eq_some_iff.mp hF
      refine cl_X5_allHolds (pc := 43) hx hb hml hown hV hw gx_w0 huq_3 (gw_724 hV) hl.1 (Nat.le_of_ble_eq_true rfl) (Nat.le_of_ble_eq_true rfl) (Nat.le_of_ble_eq_true rfl) dX6_holdAgain_43 (fun H locs hw => ?_)
      refine lv_aload_n (pc := 46) hx hb dX6_holdAgain_46 rfl (lv_at hl 0 rfl) ?_
      refine gg_X6_0 (pc := 47) hx hb hown hV hw (gw_233 hV) dX6_holdAgain_47 ?_
      refine lv_iload_n (pc := 50) hx hb dX6_holdAgain_50 rfl (lv_at hl 1 rfl) ?_
      obtain ⟨uq_4, huq_4, hF⟩ := Option.bind_eq_some_iff.mp hF
      refine cl_X5_allHolds (pc := 51) hx hb hml hown hV hw gx_w0 huq_4 (gw_724 hV) hl.1 (Nat.le_of_ble_eq_true rfl) (Nat.le_of_ble_eq_true rfl) (Nat.le_of_ble_eq_true rfl) dX6_holdAgain_51 (fun H locs hw => ?_)
      refine lv_isub (pc := 54) hx hb dX6_holdAgain_54 ?_
      refine lv_iconst (pc := 55) (v := 2) hx hb dX6_holdAgain_55 (by decide) ?_
      refine lv_idiv (pc := 56) hx hb dX6_holdAgain_56 (by decide) ?_
      cases hF
      exact gx_iretX hx hb hr hlocks hw dX6_holdAgain_57
    cases hF
    exact gx_throwNS (pc := 28) hx hb hl9 hown hlocks htab hV hZ hw (hl.1.trans hml.symm) (List.mem_of_getElem? (i := 10) rfl) (by decide) (by decide) (by decide) (by decide) dX6_holdAgain_28 dX6_holdAgain_31 dX6_holdAgain_32 dX6_holdAgain_34 dX6_holdAgain_37
  cases hF
  exact gx_throwS (pc := 7) (i := 1) rfl (by decide +kernel) gx_kt1 hx hb hl9 hown hlocks htab hV hZ hw (hl.1.trans hml.symm) (List.mem_of_getElem? (i := 9) rfl) (by decide) (by decide) (by decide) (by decide) dX6_holdAgain_7 dX6_holdAgain_10 dX6_holdAgain_11 dX6_holdAgain_13 dX6_holdAgain_16
set_option maxRecDepth 100000 in
theorem cx_X6_holdAgain {l : Launch} {G : gx_G} {M : gx_S} {o : Int64} {d : UInt64} {I V : gx_F} {p : Program} {e : Env} {R : Room} {s : State} {m : MethodId} {args : Array Value} {below : List Frame} {meth : Method} {c : Code} {H : Heap} {locs : List Loc} {Q : State → Prop} {cc : ByteArray} {pc nL index : Nat} {ls : Array Slot} {rest : List Value} {own : String} {x1 : Int32} {out : (Int32 ⊕ Nat)} (hl9 : l.stackTraces = false) (hx : p.tables.exec = Jvm.exec) (hb : c.code = cc) (hml : c.maxLocals = nL) (hown : s.vm.findClass own = some m.cls) (hV : gx_V G s) (hZ : gx_Z G s s.heap) (hw : gx_at G (I, V) M o d s.heap H locs) (hF : f_X6_holdAgain x1 I V = some out) (hlink : (Cond.methodLink own index yX6_holdAgain).before args s = true) (hsz : ls.size = nL) (hfr : 7 ≤ R.frames) (hlo : 113 ≤ R.locals) (hrest : (rest.map fun v => v.category).sum ≤ 8) (hc : 1 ≤ R.cells) (hs : 6 ≤ R.slots) (hdg : decode cc pc = .ok (.invokevirtual index, 3))
    (kx : ∀ (i : Nat) (ce : Cell) (q8 : Addr) (H1 : Heap) (locs1 : List Loc), out = .inr i → gx_at G (I, V) M o d s.heap H1 locs1 → H1[q8]? = some ce → ce.vm = .none → s.vm.findClass (gx_en i) = some ce.cls → vx_W p l e R s m args below meth c H1 locs1 1 6 Q (F0 m pc ls rest) q8)
    (kk : ∀ (q9 : Int32) (H1 : Heap) (locs1 : List Loc), out = .inl q9 → gx_at G (I, V) M o d s.heap H1 locs1 → W p l e R s m args below meth c H1 locs1 1 6 Q (F0 m (pc + 3) ls (.int q9 :: rest))) : W p l e R s m args below meth c H locs 0 0 Q (F0 m pc ls (.int x1 :: .ref (G.2.1 44) :: rest)) := by
  exact vx_calli (vx_runV (C := RX6) (As := [.int x1]) (rest := rest) ⟨hx, hb, hml, hown, (fun _ h => nomatch h : ∀ w ∈ ([] : List Cond), w.before args s = true)⟩ (k_X6_holdAgain hl9 hF) ⟨gx_callB (n := 1) rfl rfl hlink (gw_49 hV) (gw_722 hV) (by decide +kernel) ⟨hfr, hlo⟩, gw_720 hV, gw_721 hV⟩ (gx_recvX (k := 44) (ci := 8) (T := TX6) hV hZ hw (by decide) rfl rfl) rfl rfl hsz rfl (lv_room hrest) hdg ⟨hc, hs⟩) hw.2.1 (fun _ _ h => h) (fun _ h => h) (fun _ _ h => h) (fun E ce q8 i t H1 locs1 ht _ hp hB _ _ hS h1 h2 h3 => by obtain ⟨rfl, hB⟩ := hB; exact kx i ce q8 H1 locs1 hp (gx_back hw ht hB hS) h1 h2 h3) (fun r _ t H1 locs1 ht _ hp hB _ _ hS => kk r H1 locs1 hp (gx_back hw ht hB hS))
set_option maxHeartbeats 4000000 in
set_option maxRecDepth 100000 in
theorem k_X6_wouldHold {l : Launch} {G : gx_G} {M : gx_S} {o : Int64} {d : UInt64} {I V : gx_F} {x1 : Int32} {x2 : Int32} {x3 : Int32} {out : (Int32 ⊕ Nat)} (hl9 : l.stackTraces = false) (hF : f_X6_wouldHold x1 x2 x3 I V = some out) : gx_KX l yX6_wouldHold cX6_wouldHold 4 (some .int) { frames := 6, cells := 1, slots := 6, locals := 82 } [.ref (G.2.1 44), .int x1, .int x2, .int x3] G (I, V) M o d (gx_QXi G out (I, V) M o d) out (I, V) := by
  refine gx_beginX (by decide +kernel) (Nat.le_of_ble_eq_true rfl) ?_
  intro p e s m below meth c hx hb hr hml hown hlocks htab hV hZ hw ls hl
  have hown : s.vm.findClass RX6 = some m.cls := hown
  have hl : lv_has ls 4 [(0, .ref (G.2.1 44)), (1, .int x1), (2, .int x2), (3, .int x3)] := hl
  unfold f_X6_wouldHold at hF
  refine lv_iload_n (pc := 0) hx hb dX6_wouldHold_0 rfl (lv_at hl 1 rfl) ?_
  obtain ⟨uq_1, huq_1, hF⟩ := Option.bind_eq_some_iff.mp hF
  refine cl_X6_isPlace (pc := 1) hx hb hml hown hV hw huq_1 (gw_677 hV) hl.1 (Nat.le_of_ble_eq_true rfl) (Nat.le_of_ble_eq_true rfl) (Nat.le_of_ble_eq_true rfl) dX6_wouldHold_1 (fun H locs hw => ?_)
  refine gx_if_eq (pc := 4) (tgt := 18) hx hb hF dX6_wouldHold_4 (by decide) (fun hF => ?_) (fun hF => ?_)
  · cases hF
    exact gx_throwS (pc := 18) (i := 1) rfl (by decide +kernel) gx_kt1 hx hb hl9 hown hlocks htab hV hZ hw (hl.1.trans hml.symm) (List.mem_of_getElem? (i := 12) rfl) (by decide) (by decide) (by decide) (by decide) dX6_wouldHold_18 dX6_wouldHold_21 dX6_wouldHold_22 dX6_wouldHold_24 dX6_wouldHold_27
  refine lv_aload_n (pc := 7) hx hb dX6_wouldHold_7 rfl (lv_at hl 0 rfl) ?_
  refine gg_X6_0 (pc := 8) hx hb hown hV hw (gw_233 hV) dX6_wouldHold_8 ?_
  refine lv_iload_n (pc := 11) hx hb dX6_wouldHold_11 rfl (lv_at hl 2 rfl) ?_
  obtain ⟨uq_2, huq_2, hF⟩ := Option.bind_eq_some_iff.mp hF
  refine cl_X5_hasKind (pc := 12) hx hb hml hown hV hw gx_w0 huq_2 (gw_628 hV) hl.1 (Nat.le_of_ble_eq_true rfl) (Nat.le_of_ble_eq_true rfl) (Nat.le_of_ble_eq_true rfl) dX6_wouldHold_12 (fun H locs hw => ?_)
  refine gx_if_ne (pc := 15) (tgt := 28) hx hb hF dX6_wouldHold_15 (by decide) (fun hF => ?_) (fun hF => ?_)
  · refine lv_iload_n (pc := 28) hx hb dX6_wouldHold_28 rfl (lv_at hl 3 rfl) ?_
    obtain ⟨uq_3, huq_3, hF⟩ := Option.bind_eq_some_iff.mp hF
    refine cl_X6_isTurnOrSide (pc := 29) hx hb hml hown hV hw huq_3 (gw_642 hV) hl.1 (Nat.le_of_ble_eq_true rfl) (Nat.le_of_ble_eq_true rfl) (Nat.le_of_ble_eq_true rfl) dX6_wouldHold_29 (fun H locs hw => ?_)
    refine gx_if_ne (pc := 32) (tgt := 45) hx hb hF dX6_wouldHold_32 (by decide) (fun hF => ?_) (fun hF => ?_)
    · refine lv_aload_n (pc := 45) hx hb dX6_wouldHold_45 rfl (lv_at hl 0 rfl) ?_
      refine gg_X6_0 (pc := 46) hx hb hown hV hw (gw_233 hV) dX6_wouldHold_46 ?_
      refine lv_iload_n (pc := 49) hx hb dX6_wouldHold_49 rfl (lv_at hl 1 rfl) ?_
      obtain ⟨uq_4, huq_4, hF⟩ := Option.bind_eq_some_iff.mp hF
      refine cl_X5_isFree (pc := 50) hx hb hml hown hV hw gx_w0 huq_4 (gw_723 hV) hl.1 (Nat.le_of_ble_eq_true rfl) (Nat.le_of_ble_eq_true rfl) (Nat.le_of_ble_eq_true rfl) dX6_wouldHold_50 (fun H locs hw => ?_)
      refine gx_if_ne (pc := 53) (tgt := 66) hx hb hF dX6_wouldHold_53 (by decide) (fun hF => ?_) (fun hF => ?_)
      · refine lv_aload_n (pc := 66) hx hb dX6_wouldHold_66 rfl (lv_at hl 0 rfl) ?_
        refine gg_X6_0 (pc := 67) hx hb hown hV hw (gw_233 hV) dX6_wouldHold_67 ?_
        refine lv_iload_n (pc := 70) hx hb dX6_wouldHold_70 rfl (lv_at hl 2 rfl) ?_
        refine lv_iload_n (pc := 71) hx hb dX6_wouldHold_71 rfl (lv_at hl 3 rfl) ?_
        obtain ⟨uq_5, huq_5, hF⟩ := Option.bind_eq_some_iff.mp hF
        refine cl_X6_brickOf (pc := 72) hx hb hml hown hV hw huq_5 (gw_659 hV) hl.1 (Nat.le_of_ble_eq_true rfl) (Nat.le_of_ble_eq_true rfl) (Nat.le_of_ble_eq_true rfl) dX6_wouldHold_72 (fun H locs hw => ?_)
        refine lv_iload_n (pc := 75) hx hb dX6_wouldHold_75 rfl (lv_at hl 1 rfl) ?_
        obtain ⟨uq_6, huq_6, hF⟩ := Option.bind_eq_some_iff.mp hF
        refine cl_X5_holdFor (pc := 76) hx hb hml hown hV hw gx_w0 huq_6 (gw_715 hV) hl.1 (Nat.le_of_ble_eq_true rfl) (Nat.le_of_ble_eq_true rfl) (Nat.le_of_ble_eq_true rfl) dX6_wouldHold_76 (fun H locs hw => ?_)
        cases hF
        exact gx_iretX hx hb hr hlocks hw dX6_wouldHold_79
      cases hF
      exact gx_throwNS (pc := 56) hx hb hl9 hown hlocks htab hV hZ hw (hl.1.trans hml.symm) (List.mem_of_getElem? (i := 14) rfl) (by decide) (by decide) (by decide) (by decide) dX6_wouldHold_56 dX6_wouldHold_59 dX6_wouldHold_60 dX6_wouldHold_62 dX6_wouldHold_65
    cases hF
    exact gx_throwS (pc := 35) (i := 2) rfl (by decide +kernel) gx_kt2 hx hb hl9 hown hlocks htab hV hZ hw (hl.1.trans hml.symm) (List.mem_of_getElem? (i := 13) rfl) (by decide) (by decide) (by decide) (by decide) dX6_wouldHold_35 dX6_wouldHold_38 dX6_wouldHold_39 dX6_wouldHold_41 dX6_wouldHold_44
  cases hF
  exact gx_throwS (pc := 18) (i := 1) rfl (by decide +kernel) gx_kt1 hx hb hl9 hown hlocks htab hV hZ hw (hl.1.trans hml.symm) (List.mem_of_getElem? (i := 12) rfl) (by decide) (by decide) (by decide) (by decide) dX6_wouldHold_18 dX6_wouldHold_21 dX6_wouldHold_22 dX6_wouldHold_24 dX6_wouldHold_27
set_option maxRecDepth 100000 in
theorem cx_X6_wouldHold {l : Launch} {G : gx_G} {M : gx_S} {o : Int64} {d : UInt64} {I V : gx_F} {p : Program} {e : Env} {R : Room} {s : State} {m : MethodId} {args : Array Value} {below : List Frame} {meth : Method} {c : Code} {H : Heap} {locs : List Loc} {Q : State → Prop} {cc : ByteArray} {pc nL index : Nat} {ls : Array Slot} {rest : List Value} {own : String} {x1 : Int32} {x2 : Int32} {x3 : Int32} {out : (Int32 ⊕ Nat)} (hl9 : l.stackTraces = false) (hx : p.tables.exec = Jvm.exec) (hb : c.code = cc) (hml : c.maxLocals = nL) (hown : s.vm.findClass own = some m.cls) (hV : gx_V G s) (hZ : gx_Z G s s.heap) (hw : gx_at G (I, V) M o d s.heap H locs) (hF : f_X6_wouldHold x1 x2 x3 I V = some out) (hlink : (Cond.methodLink own index yX6_wouldHold).before args s = true) (hsz : ls.size = nL) (hfr : 7 ≤ R.frames) (hlo : 105 ≤ R.locals) (hrest : (rest.map fun v => v.category).sum ≤ 8) (hc : 1 ≤ R.cells) (hs : 6 ≤ R.slots) (hdg : decode cc pc = .ok (.invokevirtual index, 3))
    (kx : ∀ (i : Nat) (ce : Cell) (q8 : Addr) (H1 : Heap) (locs1 : List Loc), out = .inr i → gx_at G (I, V) M o d s.heap H1 locs1 → H1[q8]? = some ce → ce.vm = .none → s.vm.findClass (gx_en i) = some ce.cls → vx_W p l e R s m args below meth c H1 locs1 1 6 Q (F0 m pc ls rest) q8)
    (kk : ∀ (q9 : Int32) (H1 : Heap) (locs1 : List Loc), out = .inl q9 → gx_at G (I, V) M o d s.heap H1 locs1 → W p l e R s m args below meth c H1 locs1 1 6 Q (F0 m (pc + 3) ls (.int q9 :: rest))) : W p l e R s m args below meth c H locs 0 0 Q (F0 m pc ls (.int x3 :: .int x2 :: .int x1 :: .ref (G.2.1 44) :: rest)) := by
  exact vx_calli (vx_runV (C := RX6) (As := [.int x1, .int x2, .int x3]) (rest := rest) ⟨hx, hb, hml, hown, (fun _ h => nomatch h : ∀ w ∈ ([] : List Cond), w.before args s = true)⟩ (k_X6_wouldHold hl9 hF) ⟨gx_callB (n := 3) rfl rfl hlink (gw_49 hV) (gw_735 hV) (by decide +kernel) ⟨hfr, hlo⟩, gw_733 hV, gw_734 hV⟩ (gx_recvX (k := 44) (ci := 8) (T := TX6) hV hZ hw (by decide) rfl rfl) rfl rfl hsz rfl (lv_room hrest) hdg ⟨hc, hs⟩) hw.2.1 (fun _ _ h => h) (fun _ h => h) (fun _ _ h => h) (fun E ce q8 i t H1 locs1 ht _ hp hB _ _ hS h1 h2 h3 => by obtain ⟨rfl, hB⟩ := hB; exact kx i ce q8 H1 locs1 hp (gx_back hw ht hB hS) h1 h2 h3) (fun r _ t H1 locs1 ht _ hp hB _ _ hS => kk r H1 locs1 hp (gx_back hw ht hB hS))
set_option maxHeartbeats 4000000 in
set_option maxRecDepth 100000 in
theorem k_X6_stands {l : Launch} {G : gx_G} {M : gx_S} {o : Int64} {d : UInt64} {I V : gx_F} {x1 : Int32} {out : ((Bool ⊕ Nat) × gx_F × gx_F)} (hl9 : l.stackTraces = false) (hF : f_X6_stands x1 I V = some out) : gx_KX l yX6_stands cX6_stands 2 (some .boolean) { frames := 6, cells := 1, slots := 6, locals := 94 } [.ref (G.2.1 44), .int x1] G (I, V) M o d (gx_QXz G out.1 (out.2.1, out.2.2) M o d) out.1 (out.2.1, out.2.2) := by
  refine gx_beginX (by decide +kernel) (Nat.le_of_ble_eq_true rfl) ?_
  intro p e s m below meth c hx hb hr hml hown hlocks htab hV hZ hw ls hl
  have hown : s.vm.findClass RX6 = some m.cls := hown
  have hl : lv_has ls 2 [(0, .ref (G.2.1 44)), (1, .int x1)] := hl
  unfold f_X6_stands at hF
  refine lv_iload_n (pc := 0) hx hb dX6_stands_0 rfl (lv_at hl 1 rfl) ?_
  obtain ⟨uq_1, huq_1, hF⟩ := Option.bind_eq_some_iff.mp hF
  refine cl_X6_isPlace (pc := 1) hx hb hml hown hV hw huq_1 (gw_677 hV) hl.1 (Nat.le_of_ble_eq_true rfl) (Nat.le_of_ble_eq_true rfl) (Nat.le_of_ble_eq_true rfl) dX6_stands_1 (fun H locs hw => ?_)
  refine gx_if_ne (pc := 4) (tgt := 17) hx hb hF dX6_stands_4 (by decide) (fun hF => ?_) (fun hF => ?_)
  · refine lv_aload_n (pc := 17) hx hb dX6_stands_17 rfl (lv_at hl 0 rfl) ?_
    refine gg_X6_0 (pc := 18) hx hb hown hV hw (gw_233 hV) dX6_stands_18 ?_
    refine lv_iload_n (pc := 21) hx hb dX6_stands_21 rfl (lv_at hl 1 rfl) ?_
    obtain ⟨uq_2, huq_2, hF⟩ := Option.bind_eq_some_iff.mp hF
    refine cl_X5_isFree (pc := 22) hx hb hml hown hV hw gx_w0 huq_2 (gw_723 hV) hl.1 (Nat.le_of_ble_eq_true rfl) (Nat.le_of_ble_eq_true rfl) (Nat.le_of_ble_eq_true rfl) dX6_stands_22 (fun H locs hw => ?_)
    refine gx_if_eq (pc := 25) (tgt := 38) hx hb hF dX6_stands_25 (by decide) (fun hF => ?_) (fun hF => ?_)
    · refine lv_aload_n (pc := 38) hx hb dX6_stands_38 rfl (lv_at hl 0 rfl) ?_
      refine gg_X6_5 (pc := 39) hx hb hown hV hw (gw_238 hV) dX6_stands_39 ?_
      refine lv_aload_n (pc := 42) hx hb dX6_stands_42 rfl (lv_at hl 0 rfl) ?_
      refine gg_X6_0 (pc := 43) hx hb hown hV hw (gw_233 hV) dX6_stands_43 ?_
      refine lv_iconst (pc := 46) (v := (-1)) hx hb dX6_stands_46 (by decide) ?_
      obtain ⟨uq_3, huq_3, hF⟩ := Option.bind_eq_some_iff.mp hF
      refine cl_X0_countWithout (pc := 47) hx hb hml hown hV hw gx_w0 huq_3 (gw_289 hV) hl.1 (Nat.le_of_ble_eq_true rfl) (Nat.le_of_ble_eq_true rfl) (Nat.le_of_ble_eq_true rfl) dX6_stands_47 (fun H locs hw => ?_)
      refine lv_pop (pc := 50) hx hb dX6_stands_50 rfl ?_
      refine lv_aload_n (pc := 51) hx hb dX6_stands_51 rfl (lv_at hl 0 rfl) ?_
      refine gg_X6_5 (pc := 52) hx hb hown hV hw (gw_238 hV) dX6_stands_52 ?_
      refine lv_iload_n (pc := 55) hx hb dX6_stands_55 rfl (lv_at hl 1 rfl) ?_
      obtain ⟨uq_4, huq_4, hF⟩ := Option.bind_eq_some_iff.mp hF
      refine cl_X0_isReached (pc := 56) hx hb hml hown hV hw huq_4 (gw_746 hV) hl.1 (Nat.le_of_ble_eq_true rfl) (Nat.le_of_ble_eq_true rfl) (Nat.le_of_ble_eq_true rfl) dX6_stands_56 (fun H locs hw => ?_)
      cases hF
      exact gx_zretX (b := _) hx hb hr hlocks hw dX6_stands_59
    cases hF
    exact gx_throwNS (pc := 28) hx hb hl9 hown hlocks htab hV hZ hw (hl.1.trans hml.symm) (List.mem_of_getElem? (i := 10) rfl) (by decide) (by decide) (by decide) (by decide) dX6_stands_28 dX6_stands_31 dX6_stands_32 dX6_stands_34 dX6_stands_37
  cases hF
  exact gx_throwS (pc := 7) (i := 1) rfl (by decide +kernel) gx_kt1 hx hb hl9 hown hlocks htab hV hZ hw (hl.1.trans hml.symm) (List.mem_of_getElem? (i := 9) rfl) (by decide) (by decide) (by decide) (by decide) dX6_stands_7 dX6_stands_10 dX6_stands_11 dX6_stands_13 dX6_stands_16
set_option maxRecDepth 100000 in
theorem cx_X6_stands {l : Launch} {G : gx_G} {M : gx_S} {o : Int64} {d : UInt64} {I V : gx_F} {p : Program} {e : Env} {R : Room} {s : State} {m : MethodId} {args : Array Value} {below : List Frame} {meth : Method} {c : Code} {H : Heap} {locs : List Loc} {Q : State → Prop} {cc : ByteArray} {pc nL index : Nat} {ls : Array Slot} {rest : List Value} {own : String} {x1 : Int32} {out : ((Bool ⊕ Nat) × gx_F × gx_F)} (hl9 : l.stackTraces = false) (hx : p.tables.exec = Jvm.exec) (hb : c.code = cc) (hml : c.maxLocals = nL) (hown : s.vm.findClass own = some m.cls) (hV : gx_V G s) (hZ : gx_Z G s s.heap) (hw : gx_at G (I, V) M o d s.heap H locs) (hF : f_X6_stands x1 I V = some out) (hlink : (Cond.methodLink own index yX6_stands).before args s = true) (hsz : ls.size = nL) (hfr : 7 ≤ R.frames) (hlo : 115 ≤ R.locals) (hrest : (rest.map fun v => v.category).sum ≤ 8) (hc : 1 ≤ R.cells) (hs : 6 ≤ R.slots) (hdg : decode cc pc = .ok (.invokevirtual index, 3))
    (kx : ∀ (i : Nat) (ce : Cell) (q8 : Addr) (H1 : Heap) (locs1 : List Loc), out.1 = .inr i → gx_at G (out.2.1, out.2.2) M o d s.heap H1 locs1 → H1[q8]? = some ce → ce.vm = .none → s.vm.findClass (gx_en i) = some ce.cls → vx_W p l e R s m args below meth c H1 locs1 1 6 Q (F0 m pc ls rest) q8)
    (kk : ∀ (q9 : Bool) (H1 : Heap) (locs1 : List Loc), out.1 = .inl q9 → gx_at G (out.2.1, out.2.2) M o d s.heap H1 locs1 → W p l e R s m args below meth c H1 locs1 1 6 Q (F0 m (pc + 3) ls (.int (gx_bi q9) :: rest))) : W p l e R s m args below meth c H locs 0 0 Q (F0 m pc ls (.int x1 :: .ref (G.2.1 44) :: rest)) := by
  exact vx_calli (vx_runV (C := RX6) (As := [.int x1]) (rest := rest) ⟨hx, hb, hml, hown, (fun _ h => nomatch h : ∀ w ∈ ([] : List Cond), w.before args s = true)⟩ (k_X6_stands hl9 hF) ⟨gx_callB (n := 1) rfl rfl hlink (gw_49 hV) (gw_745 hV) (by decide +kernel) ⟨hfr, hlo⟩, gw_743 hV, gw_744 hV⟩ (gx_recvX (k := 44) (ci := 8) (T := TX6) hV hZ hw (by decide) rfl rfl) rfl rfl hsz rfl (lv_room hrest) hdg ⟨hc, hs⟩) hw.2.1 (fun _ _ h => h) (fun _ h => h) (fun _ _ h => h) (fun E ce q8 i t H1 locs1 ht _ hp hB _ _ hS h1 h2 h3 => by obtain ⟨rfl, hB⟩ := hB; exact kx i ce q8 H1 locs1 hp (gx_back hw ht hB hS) h1 h2 h3) (fun r b t H1 locs1 ht _ hp hB _ _ hS => by obtain ⟨hp1, rfl⟩ := hp; exact kk b H1 locs1 hp1 (gx_back hw ht hB hS))
set_option maxHeartbeats 4000000 in
set_option maxRecDepth 100000 in
theorem k_X6_falls {l : Launch} {G : gx_G} {M : gx_S} {o : Int64} {d : UInt64} {I V : gx_F} {x1 : Int32} {out : ((Int32 ⊕ Nat) × gx_F × gx_F)} (hl9 : l.stackTraces = false) (hF : f_X6_falls x1 I V = some out) : gx_KX l yX6_falls cX6_falls 2 (some .int) { frames := 6, cells := 1, slots := 6, locals := 117 } [.ref (G.2.1 44), .int x1] G (I, V) M o d (gx_QXi G out.1 (out.2.1, out.2.2) M o d) out.1 (out.2.1, out.2.2) := by
  refine gx_beginX (by decide +kernel) (Nat.le_of_ble_eq_true rfl) ?_
  intro p e s m below meth c hx hb hr hml hown hlocks htab hV hZ hw ls hl
  have hown : s.vm.findClass RX6 = some m.cls := hown
  have hl : lv_has ls 2 [(0, .ref (G.2.1 44)), (1, .int x1)] := hl
  unfold f_X6_falls at hF
  refine lv_iload_n (pc := 0) hx hb dX6_falls_0 rfl (lv_at hl 1 rfl) ?_
  obtain ⟨uq_1, huq_1, hF⟩ := Option.bind_eq_some_iff.mp hF
  refine cl_X6_isPlace (pc := 1) hx hb hml hown hV hw huq_1 (gw_677 hV) hl.1 (Nat.le_of_ble_eq_true rfl) (Nat.le_of_ble_eq_true rfl) (Nat.le_of_ble_eq_true rfl) dX6_falls_1 (fun H locs hw => ?_)
  refine gx_if_ne (pc := 4) (tgt := 17) hx hb hF dX6_falls_4 (by decide) (fun hF => ?_) (fun hF => ?_)
  · refine lv_aload_n (pc := 17) hx hb dX6_falls_17 rfl (lv_at hl 0 rfl) ?_
    refine gg_X6_0 (pc := 18) hx hb hown hV hw (gw_233 hV) dX6_falls_18 ?_
    refine lv_iload_n (pc := 21) hx hb dX6_falls_21 rfl (lv_at hl 1 rfl) ?_
    obtain ⟨uq_2, huq_2, hF⟩ := Option.bind_eq_some_iff.mp hF
    refine cl_X5_isFree (pc := 22) hx hb hml hown hV hw gx_w0 huq_2 (gw_723 hV) hl.1 (Nat.le_of_ble_eq_true rfl) (Nat.le_of_ble_eq_true rfl) (Nat.le_of_ble_eq_true rfl) dX6_falls_22 (fun H locs hw => ?_)
    refine gx_if_eq (pc := 25) (tgt := 38) hx hb hF dX6_falls_25 (by decide) (fun hF => ?_) (fun hF => ?_)
    · refine lv_aload_n (pc := 38) hx hb dX6_falls_38 rfl (lv_at hl 0 rfl) ?_
      refine gg_X6_5 (pc := 39) hx hb hown hV hw (gw_238 hV) dX6_falls_39 ?_
      refine lv_aload_n (pc := 42) hx hb dX6_falls_42 rfl (lv_at hl 0 rfl) ?_
      refine gg_X6_0 (pc := 43) hx hb hown hV hw (gw_233 hV) dX6_falls_43 ?_
      refine lv_iload_n (pc := 46) hx hb dX6_falls_46 rfl (lv_at hl 1 rfl) ?_
      obtain ⟨uq_3, huq_3, hF⟩ := Option.bind_eq_some_iff.mp hF
      refine cl_X0_fallingWithout (pc := 47) hx hb hml hown hV hw gx_w0 huq_3 (gw_754 hV) hl.1 (Nat.le_of_ble_eq_true rfl) (Nat.le_of_ble_eq_true rfl) (Nat.le_of_ble_eq_true rfl) dX6_falls_47 (fun H locs hw => ?_)
      cases hF
      exact gx_iretX hx hb hr hlocks hw dX6_falls_50
    cases hF
    exact gx_throwNS (pc := 28) hx hb hl9 hown hlocks htab hV hZ hw (hl.1.trans hml.symm) (List.mem_of_getElem? (i := 10) rfl) (by decide) (by decide) (by decide) (by decide) dX6_falls_28 dX6_falls_31 dX6_falls_32 dX6_falls_34 dX6_falls_37
  cases hF
  exact gx_throwS (pc := 7) (i := 1) rfl (by decide +kernel) gx_kt1 hx hb hl9 hown hlocks htab hV hZ hw (hl.1.trans hml.symm) (List.mem_of_getElem? (i := 9) rfl) (by decide) (by decide) (by decide) (by decide) dX6_falls_7 dX6_falls_10 dX6_falls_11 dX6_falls_13 dX6_falls_16
set_option maxRecDepth 100000 in
theorem cx_X6_falls {l : Launch} {G : gx_G} {M : gx_S} {o : Int64} {d : UInt64} {I V : gx_F} {p : Program} {e : Env} {R : Room} {s : State} {m : MethodId} {args : Array Value} {below : List Frame} {meth : Method} {c : Code} {H : Heap} {locs : List Loc} {Q : State → Prop} {cc : ByteArray} {pc nL index : Nat} {ls : Array Slot} {rest : List Value} {own : String} {x1 : Int32} {out : ((Int32 ⊕ Nat) × gx_F × gx_F)} (hl9 : l.stackTraces = false) (hx : p.tables.exec = Jvm.exec) (hb : c.code = cc) (hml : c.maxLocals = nL) (hown : s.vm.findClass own = some m.cls) (hV : gx_V G s) (hZ : gx_Z G s s.heap) (hw : gx_at G (I, V) M o d s.heap H locs) (hF : f_X6_falls x1 I V = some out) (hlink : (Cond.methodLink own index yX6_falls).before args s = true) (hsz : ls.size = nL) (hfr : 7 ≤ R.frames) (hlo : 138 ≤ R.locals) (hrest : (rest.map fun v => v.category).sum ≤ 8) (hc : 1 ≤ R.cells) (hs : 6 ≤ R.slots) (hdg : decode cc pc = .ok (.invokevirtual index, 3))
    (kx : ∀ (i : Nat) (ce : Cell) (q8 : Addr) (H1 : Heap) (locs1 : List Loc), out.1 = .inr i → gx_at G (out.2.1, out.2.2) M o d s.heap H1 locs1 → H1[q8]? = some ce → ce.vm = .none → s.vm.findClass (gx_en i) = some ce.cls → vx_W p l e R s m args below meth c H1 locs1 1 6 Q (F0 m pc ls rest) q8)
    (kk : ∀ (q9 : Int32) (H1 : Heap) (locs1 : List Loc), out.1 = .inl q9 → gx_at G (out.2.1, out.2.2) M o d s.heap H1 locs1 → W p l e R s m args below meth c H1 locs1 1 6 Q (F0 m (pc + 3) ls (.int q9 :: rest))) : W p l e R s m args below meth c H locs 0 0 Q (F0 m pc ls (.int x1 :: .ref (G.2.1 44) :: rest)) := by
  exact vx_calli (vx_runV (C := RX6) (As := [.int x1]) (rest := rest) ⟨hx, hb, hml, hown, (fun _ h => nomatch h : ∀ w ∈ ([] : List Cond), w.before args s = true)⟩ (k_X6_falls hl9 hF) ⟨gx_callB (n := 1) rfl rfl hlink (gw_49 hV) (gw_753 hV) (by decide +kernel) ⟨hfr, hlo⟩, gw_751 hV, gw_752 hV⟩ (gx_recvX (k := 44) (ci := 8) (T := TX6) hV hZ hw (by decide) rfl rfl) rfl rfl hsz rfl (lv_room hrest) hdg ⟨hc, hs⟩) hw.2.1 (fun _ _ h => h) (fun _ h => h) (fun _ _ h => h) (fun E ce q8 i t H1 locs1 ht _ hp hB _ _ hS h1 h2 h3 => by obtain ⟨rfl, hB⟩ := hB; exact kx i ce q8 H1 locs1 hp (gx_back hw ht hB hS) h1 h2 h3) (fun r _ t H1 locs1 ht _ hp hB _ _ hS => kk r H1 locs1 hp (gx_back hw ht hB hS))
set_option maxHeartbeats 4000000 in
set_option maxRecDepth 100000 in
theorem k_X6_errorsAt {l : Launch} {G : gx_G} {M : gx_S} {o : Int64} {d : UInt64} {I V : gx_F} {x1 : Int32} {out : (Int32 ⊕ Nat)} (hl9 : l.stackTraces = false) (hF : f_X6_errorsAt x1 I V = some out) : gx_KX l yX6_errorsAt cX6_errorsAt 2 (some .int) { frames := 6, cells := 1, slots := 6, locals := 91 } [.ref (G.2.1 44), .int x1] G (I, V) M o d (gx_QXi G out (I, V) M o d) out (I, V) := by
  refine gx_beginX (by decide +kernel) (Nat.le_of_ble_eq_true rfl) ?_
  intro p e s m below meth c hx hb hr hml hown hlocks htab hV hZ hw ls hl
  have hown : s.vm.findClass RX6 = some m.cls := hown
  have hl : lv_has ls 2 [(0, .ref (G.2.1 44)), (1, .int x1)] := hl
  unfold f_X6_errorsAt at hF
  refine lv_iload_n (pc := 0) hx hb dX6_errorsAt_0 rfl (lv_at hl 1 rfl) ?_
  obtain ⟨uq_1, huq_1, hF⟩ := Option.bind_eq_some_iff.mp hF
  refine cl_X6_isPlace (pc := 1) hx hb hml hown hV hw huq_1 (gw_677 hV) hl.1 (Nat.le_of_ble_eq_true rfl) (Nat.le_of_ble_eq_true rfl) (Nat.le_of_ble_eq_true rfl) dX6_errorsAt_1 (fun H locs hw => ?_)
  refine gx_if_ne (pc := 4) (tgt := 17) hx hb hF dX6_errorsAt_4 (by decide) (fun hF => ?_) (fun hF => ?_)
  · refine lv_aload_n (pc := 17) hx hb dX6_errorsAt_17 rfl (lv_at hl 0 rfl) ?_
    refine gg_X6_0 (pc := 18) hx hb hown hV hw (gw_233 hV) dX6_errorsAt_18 ?_
    refine lv_iload_n (pc := 21) hx hb dX6_errorsAt_21 rfl (lv_at hl 1 rfl) ?_
    obtain ⟨uq_2, huq_2, hF⟩ := Option.bind_eq_some_iff.mp hF
    refine cl_X5_isFree (pc := 22) hx hb hml hown hV hw gx_w0 huq_2 (gw_723 hV) hl.1 (Nat.le_of_ble_eq_true rfl) (Nat.le_of_ble_eq_true rfl) (Nat.le_of_ble_eq_true rfl) dX6_errorsAt_22 (fun H locs hw => ?_)
    refine gx_if_eq (pc := 25) (tgt := 38) hx hb hF dX6_errorsAt_25 (by decide) (fun hF => ?_) (fun hF => ?_)
    · refine lv_aload_n (pc := 38) hx hb dX6_errorsAt_38 rfl (lv_at hl 0 rfl) ?_
      refine gg_X6_0 (pc := 39) hx hb hown hV hw (gw_233 hV) dX6_errorsAt_39 ?_
      refine lv_iload_n (pc := 42) hx hb dX6_errorsAt_42 rfl (lv_at hl 1 rfl) ?_
      obtain ⟨uq_3, huq_3, hF⟩ := Option.bind_eq_some_iff.mp hF
      refine cl_X5_errorsOf (pc := 43) hx hb hml hown hV hw gx_w0 huq_3 (gw_762 hV) hl.1 (Nat.le_of_ble_eq_true rfl) (Nat.le_of_ble_eq_true rfl) (Nat.le_of_ble_eq_true rfl) dX6_errorsAt_43 (fun H locs hw => ?_)
      cases hF
      exact gx_iretX hx hb hr hlocks hw dX6_errorsAt_46
    cases hF
    exact gx_throwNS (pc := 28) hx hb hl9 hown hlocks htab hV hZ hw (hl.1.trans hml.symm) (List.mem_of_getElem? (i := 10) rfl) (by decide) (by decide) (by decide) (by decide) dX6_errorsAt_28 dX6_errorsAt_31 dX6_errorsAt_32 dX6_errorsAt_34 dX6_errorsAt_37
  cases hF
  exact gx_throwS (pc := 7) (i := 1) rfl (by decide +kernel) gx_kt1 hx hb hl9 hown hlocks htab hV hZ hw (hl.1.trans hml.symm) (List.mem_of_getElem? (i := 9) rfl) (by decide) (by decide) (by decide) (by decide) dX6_errorsAt_7 dX6_errorsAt_10 dX6_errorsAt_11 dX6_errorsAt_13 dX6_errorsAt_16
set_option maxRecDepth 100000 in
theorem cx_X6_errorsAt {l : Launch} {G : gx_G} {M : gx_S} {o : Int64} {d : UInt64} {I V : gx_F} {p : Program} {e : Env} {R : Room} {s : State} {m : MethodId} {args : Array Value} {below : List Frame} {meth : Method} {c : Code} {H : Heap} {locs : List Loc} {Q : State → Prop} {cc : ByteArray} {pc nL index : Nat} {ls : Array Slot} {rest : List Value} {own : String} {x1 : Int32} {out : (Int32 ⊕ Nat)} (hl9 : l.stackTraces = false) (hx : p.tables.exec = Jvm.exec) (hb : c.code = cc) (hml : c.maxLocals = nL) (hown : s.vm.findClass own = some m.cls) (hV : gx_V G s) (hZ : gx_Z G s s.heap) (hw : gx_at G (I, V) M o d s.heap H locs) (hF : f_X6_errorsAt x1 I V = some out) (hlink : (Cond.methodLink own index yX6_errorsAt).before args s = true) (hsz : ls.size = nL) (hfr : 7 ≤ R.frames) (hlo : 112 ≤ R.locals) (hrest : (rest.map fun v => v.category).sum ≤ 8) (hc : 1 ≤ R.cells) (hs : 6 ≤ R.slots) (hdg : decode cc pc = .ok (.invokevirtual index, 3))
    (kx : ∀ (i : Nat) (ce : Cell) (q8 : Addr) (H1 : Heap) (locs1 : List Loc), out = .inr i → gx_at G (I, V) M o d s.heap H1 locs1 → H1[q8]? = some ce → ce.vm = .none → s.vm.findClass (gx_en i) = some ce.cls → vx_W p l e R s m args below meth c H1 locs1 1 6 Q (F0 m pc ls rest) q8)
    (kk : ∀ (q9 : Int32) (H1 : Heap) (locs1 : List Loc), out = .inl q9 → gx_at G (I, V) M o d s.heap H1 locs1 → W p l e R s m args below meth c H1 locs1 1 6 Q (F0 m (pc + 3) ls (.int q9 :: rest))) : W p l e R s m args below meth c H locs 0 0 Q (F0 m pc ls (.int x1 :: .ref (G.2.1 44) :: rest)) := by
  exact vx_calli (vx_runV (C := RX6) (As := [.int x1]) (rest := rest) ⟨hx, hb, hml, hown, (fun _ h => nomatch h : ∀ w ∈ ([] : List Cond), w.before args s = true)⟩ (k_X6_errorsAt hl9 hF) ⟨gx_callB (n := 1) rfl rfl hlink (gw_49 hV) (gw_761 hV) (by decide +kernel) ⟨hfr, hlo⟩, gw_759 hV, gw_760 hV⟩ (gx_recvX (k := 44) (ci := 8) (T := TX6) hV hZ hw (by decide) rfl rfl) rfl rfl hsz rfl (lv_room hrest) hdg ⟨hc, hs⟩) hw.2.1 (fun _ _ h => h) (fun _ h => h) (fun _ _ h => h) (fun E ce q8 i t H1 locs1 ht _ hp hB _ _ hS h1 h2 h3 => by obtain ⟨rfl, hB⟩ := hB; exact kx i ce q8 H1 locs1 hp (gx_back hw ht hB hS) h1 h2 h3) (fun r _ t H1 locs1 ht _ hp hB _ _ hS => kk r H1 locs1 hp (gx_back hw ht hB hS))
set_option maxHeartbeats 4000000 in
set_option maxRecDepth 100000 in
theorem k_X6_nextPlace {l : Launch} {G : gx_G} {M : gx_S} {o : Int64} {d : UInt64} {I V : gx_F} {out : ((Int32 ⊕ Nat) × gx_F × gx_F)} (hl9 : l.stackTraces = false) (hF : f_X6_nextPlace I V = some out) : gx_KX l yX6_nextPlace cX6_nextPlace 1 (some .int) { frames := 6, cells := 1, slots := 6, locals := 99 } [.ref (G.2.1 44)] G (I, V) M o d (gx_QXi G out.1 (out.2.1, out.2.2) M o d) out.1 (out.2.1, out.2.2) := by
  refine gx_beginX (by decide +kernel) (Nat.le_of_ble_eq_true rfl) ?_
  intro p e s m below meth c hx hb hr hml hown hlocks htab hV hZ hw ls hl
  have hown : s.vm.findClass RX6 = some m.cls := hown
  have hl : lv_has ls 1 [(0, .ref (G.2.1 44))] := hl
  unfold f_X6_nextPlace at hF
  refine lv_aload_n (pc := 0) hx hb dX6_nextPlace_0 rfl (lv_at hl 0 rfl) ?_
  refine gg_X6_6 (pc := 1) hx hb hown hV hw (gw_239 hV) dX6_nextPlace_1 ?_
  refine lv_aload_n (pc := 4) hx hb dX6_nextPlace_4 rfl (lv_at hl 0 rfl) ?_
  refine gg_X6_0 (pc := 5) hx hb hown hV hw (gw_233 hV) dX6_nextPlace_5 ?_
  refine lv_iconst (pc := 8) (v := 0) hx hb dX6_nextPlace_8 (by decide) ?_
  obtain ⟨uq_1, huq_1, hF⟩ := Option.bind_eq_some_iff.mp hF
  refine cl_X1_findFrom (pc := 9) hx hb hml hown hV hw gx_w0 huq_1 (gw_773 hV) hl.1 (Nat.le_of_ble_eq_true rfl) (Nat.le_of_ble_eq_true rfl) (Nat.le_of_ble_eq_true rfl) dX6_nextPlace_9 (fun H locs hw => ?_)
  refine gx_if_ne (pc := 12) (tgt := 25) hx hb hF dX6_nextPlace_12 (by decide) (fun hF => ?_) (fun hF => ?_)
  · refine lv_aload_n (pc := 25) hx hb dX6_nextPlace_25 rfl (lv_at hl 0 rfl) ?_
    refine gg_X6_6 (pc := 26) hx hb hown hV hw (gw_239 hV) dX6_nextPlace_26 ?_
    refine gg_X1_1 (pc := 29) hx hb hown hV hw (gw_174 hV) dX6_nextPlace_29 ?_
    cases hF
    exact gx_iretX hx hb hr hlocks hw dX6_nextPlace_32
  cases hF
  exact gx_throwNS (pc := 15) hx hb hl9 hown hlocks htab hV hZ hw (hl.1.trans hml.symm) (List.mem_of_getElem? (i := 15) rfl) (by decide) (by decide) (by decide) (by decide) dX6_nextPlace_15 dX6_nextPlace_18 dX6_nextPlace_19 dX6_nextPlace_21 dX6_nextPlace_24
set_option maxRecDepth 100000 in
theorem cx_X6_nextPlace {l : Launch} {G : gx_G} {M : gx_S} {o : Int64} {d : UInt64} {I V : gx_F} {p : Program} {e : Env} {R : Room} {s : State} {m : MethodId} {args : Array Value} {below : List Frame} {meth : Method} {c : Code} {H : Heap} {locs : List Loc} {Q : State → Prop} {cc : ByteArray} {pc nL index : Nat} {ls : Array Slot} {rest : List Value} {own : String} {out : ((Int32 ⊕ Nat) × gx_F × gx_F)} (hl9 : l.stackTraces = false) (hx : p.tables.exec = Jvm.exec) (hb : c.code = cc) (hml : c.maxLocals = nL) (hown : s.vm.findClass own = some m.cls) (hV : gx_V G s) (hZ : gx_Z G s s.heap) (hw : gx_at G (I, V) M o d s.heap H locs) (hF : f_X6_nextPlace I V = some out) (hlink : (Cond.methodLink own index yX6_nextPlace).before args s = true) (hsz : ls.size = nL) (hfr : 7 ≤ R.frames) (hlo : 119 ≤ R.locals) (hrest : (rest.map fun v => v.category).sum ≤ 8) (hc : 1 ≤ R.cells) (hs : 6 ≤ R.slots) (hdg : decode cc pc = .ok (.invokevirtual index, 3))
    (kx : ∀ (i : Nat) (ce : Cell) (q8 : Addr) (H1 : Heap) (locs1 : List Loc), out.1 = .inr i → gx_at G (out.2.1, out.2.2) M o d s.heap H1 locs1 → H1[q8]? = some ce → ce.vm = .none → s.vm.findClass (gx_en i) = some ce.cls → vx_W p l e R s m args below meth c H1 locs1 1 6 Q (F0 m pc ls rest) q8)
    (kk : ∀ (q9 : Int32) (H1 : Heap) (locs1 : List Loc), out.1 = .inl q9 → gx_at G (out.2.1, out.2.2) M o d s.heap H1 locs1 → W p l e R s m args below meth c H1 locs1 1 6 Q (F0 m (pc + 3) ls (.int q9 :: rest))) : W p l e R s m args below meth c H locs 0 0 Q (F0 m pc ls (.ref (G.2.1 44) :: rest)) := by
  exact vx_calli (vx_runV (C := RX6) (As := []) (rest := rest) ⟨hx, hb, hml, hown, (fun _ h => nomatch h : ∀ w ∈ ([] : List Cond), w.before args s = true)⟩ (k_X6_nextPlace hl9 hF) ⟨gx_callB (n := 0) rfl rfl hlink (gw_49 hV) (gw_772 hV) (by decide +kernel) ⟨hfr, hlo⟩, gw_770 hV, gw_771 hV⟩ (gx_recvX (k := 44) (ci := 8) (T := TX6) hV hZ hw (by decide) rfl rfl) rfl rfl hsz rfl (lv_room hrest) hdg ⟨hc, hs⟩) hw.2.1 (fun _ _ h => h) (fun _ h => h) (fun _ _ h => h) (fun E ce q8 i t H1 locs1 ht _ hp hB _ _ hS h1 h2 h3 => by obtain ⟨rfl, hB⟩ := hB; exact kx i ce q8 H1 locs1 hp (gx_back hw ht hB hS) h1 h2 h3) (fun r _ t H1 locs1 ht _ hp hB _ _ hS => kk r H1 locs1 hp (gx_back hw ht hB hS))
set_option maxHeartbeats 4000000 in
set_option maxRecDepth 100000 in
theorem k_X6_nextBrick {l : Launch} {G : gx_G} {M : gx_S} {o : Int64} {d : UInt64} {I V : gx_F} {out : ((Int32 ⊕ Nat) × gx_F × gx_F)} (hl9 : l.stackTraces = false) (hF : f_X6_nextBrick I V = some out) : gx_KX l yX6_nextBrick cX6_nextBrick 1 (some .int) { frames := 6, cells := 1, slots := 6, locals := 99 } [.ref (G.2.1 44)] G (I, V) M o d (gx_QXi G out.1 (out.2.1, out.2.2) M o d) out.1 (out.2.1, out.2.2) := by
  refine gx_beginX (by decide +kernel) (Nat.le_of_ble_eq_true rfl) ?_
  intro p e s m below meth c hx hb hr hml hown hlocks htab hV hZ hw ls hl
  have hown : s.vm.findClass RX6 = some m.cls := hown
  have hl : lv_has ls 1 [(0, .ref (G.2.1 44))] := hl
  unfold f_X6_nextBrick at hF
  refine lv_aload_n (pc := 0) hx hb dX6_nextBrick_0 rfl (lv_at hl 0 rfl) ?_
  refine gg_X6_6 (pc := 1) hx hb hown hV hw (gw_239 hV) dX6_nextBrick_1 ?_
  refine lv_aload_n (pc := 4) hx hb dX6_nextBrick_4 rfl (lv_at hl 0 rfl) ?_
  refine gg_X6_0 (pc := 5) hx hb hown hV hw (gw_233 hV) dX6_nextBrick_5 ?_
  refine lv_iconst (pc := 8) (v := 0) hx hb dX6_nextBrick_8 (by decide) ?_
  obtain ⟨uq_1, huq_1, hF⟩ := Option.bind_eq_some_iff.mp hF
  refine cl_X1_findFrom (pc := 9) hx hb hml hown hV hw gx_w0 huq_1 (gw_773 hV) hl.1 (Nat.le_of_ble_eq_true rfl) (Nat.le_of_ble_eq_true rfl) (Nat.le_of_ble_eq_true rfl) dX6_nextBrick_9 (fun H locs hw => ?_)
  refine gx_if_ne (pc := 12) (tgt := 25) hx hb hF dX6_nextBrick_12 (by decide) (fun hF => ?_) (fun hF => ?_)
  · refine lv_aload_n (pc := 25) hx hb dX6_nextBrick_25 rfl (lv_at hl 0 rfl) ?_
    refine gg_X6_6 (pc := 26) hx hb hown hV hw (gw_239 hV) dX6_nextBrick_26 ?_
    refine gg_X1_2 (pc := 29) hx hb hown hV hw (gw_176 hV) dX6_nextBrick_29 ?_
    cases hF
    exact gx_iretX hx hb hr hlocks hw dX6_nextBrick_32
  cases hF
  exact gx_throwNS (pc := 15) hx hb hl9 hown hlocks htab hV hZ hw (hl.1.trans hml.symm) (List.mem_of_getElem? (i := 15) rfl) (by decide) (by decide) (by decide) (by decide) dX6_nextBrick_15 dX6_nextBrick_18 dX6_nextBrick_19 dX6_nextBrick_21 dX6_nextBrick_24
set_option maxRecDepth 100000 in
theorem cx_X6_nextBrick {l : Launch} {G : gx_G} {M : gx_S} {o : Int64} {d : UInt64} {I V : gx_F} {p : Program} {e : Env} {R : Room} {s : State} {m : MethodId} {args : Array Value} {below : List Frame} {meth : Method} {c : Code} {H : Heap} {locs : List Loc} {Q : State → Prop} {cc : ByteArray} {pc nL index : Nat} {ls : Array Slot} {rest : List Value} {own : String} {out : ((Int32 ⊕ Nat) × gx_F × gx_F)} (hl9 : l.stackTraces = false) (hx : p.tables.exec = Jvm.exec) (hb : c.code = cc) (hml : c.maxLocals = nL) (hown : s.vm.findClass own = some m.cls) (hV : gx_V G s) (hZ : gx_Z G s s.heap) (hw : gx_at G (I, V) M o d s.heap H locs) (hF : f_X6_nextBrick I V = some out) (hlink : (Cond.methodLink own index yX6_nextBrick).before args s = true) (hsz : ls.size = nL) (hfr : 7 ≤ R.frames) (hlo : 119 ≤ R.locals) (hrest : (rest.map fun v => v.category).sum ≤ 8) (hc : 1 ≤ R.cells) (hs : 6 ≤ R.slots) (hdg : decode cc pc = .ok (.invokevirtual index, 3))
    (kx : ∀ (i : Nat) (ce : Cell) (q8 : Addr) (H1 : Heap) (locs1 : List Loc), out.1 = .inr i → gx_at G (out.2.1, out.2.2) M o d s.heap H1 locs1 → H1[q8]? = some ce → ce.vm = .none → s.vm.findClass (gx_en i) = some ce.cls → vx_W p l e R s m args below meth c H1 locs1 1 6 Q (F0 m pc ls rest) q8)
    (kk : ∀ (q9 : Int32) (H1 : Heap) (locs1 : List Loc), out.1 = .inl q9 → gx_at G (out.2.1, out.2.2) M o d s.heap H1 locs1 → W p l e R s m args below meth c H1 locs1 1 6 Q (F0 m (pc + 3) ls (.int q9 :: rest))) : W p l e R s m args below meth c H locs 0 0 Q (F0 m pc ls (.ref (G.2.1 44) :: rest)) := by
  exact vx_calli (vx_runV (C := RX6) (As := []) (rest := rest) ⟨hx, hb, hml, hown, (fun _ h => nomatch h : ∀ w ∈ ([] : List Cond), w.before args s = true)⟩ (k_X6_nextBrick hl9 hF) ⟨gx_callB (n := 0) rfl rfl hlink (gw_49 hV) (gw_781 hV) (by decide +kernel) ⟨hfr, hlo⟩, gw_779 hV, gw_780 hV⟩ (gx_recvX (k := 44) (ci := 8) (T := TX6) hV hZ hw (by decide) rfl rfl) rfl rfl hsz rfl (lv_room hrest) hdg ⟨hc, hs⟩) hw.2.1 (fun _ _ h => h) (fun _ h => h) (fun _ _ h => h) (fun E ce q8 i t H1 locs1 ht _ hp hB _ _ hS h1 h2 h3 => by obtain ⟨rfl, hB⟩ := hB; exact kx i ce q8 H1 locs1 hp (gx_back hw ht hB hS) h1 h2 h3) (fun r _ t H1 locs1 ht _ hp hB _ _ hS => kk r H1 locs1 hp (gx_back hw ht hB hS))
set_option maxHeartbeats 4000000 in
set_option maxRecDepth 100000 in
theorem k_X6_choices {l : Launch} {G : gx_G} {M : gx_S} {o : Int64} {d : UInt64} {I V : gx_F} {x1 : Int32} {out : ((Int32 ⊕ Nat) × gx_F × gx_F)} (hl9 : l.stackTraces = false) (hF : f_X6_choices x1 I V = some out) : gx_KX l yX6_choices cX6_choices 2 (some .int) { frames := 6, cells := 1, slots := 6, locals := 82 } [.ref (G.2.1 44), .int x1] G (I, V) M o d (gx_QXi G out.1 (out.2.1, out.2.2) M o d) out.1 (out.2.1, out.2.2) := by
  refine gx_beginX (by decide +kernel) (Nat.le_of_ble_eq_true rfl) ?_
  intro p e s m below meth c hx hb hr hml hown hlocks htab hV hZ hw ls hl
  have hown : s.vm.findClass RX6 = some m.cls := hown
  have hl : lv_has ls 2 [(0, .ref (G.2.1 44)), (1, .int x1)] := hl
  unfold f_X6_choices at hF
  refine lv_iload_n (pc := 0) hx hb dX6_choices_0 rfl (lv_at hl 1 rfl) ?_
  obtain ⟨uq_1, huq_1, hF⟩ := Option.bind_eq_some_iff.mp hF
  refine cl_X6_isPlace (pc := 1) hx hb hml hown hV hw huq_1 (gw_677 hV) hl.1 (Nat.le_of_ble_eq_true rfl) (Nat.le_of_ble_eq_true rfl) (Nat.le_of_ble_eq_true rfl) dX6_choices_1 (fun H locs hw => ?_)
  refine gx_if_ne (pc := 4) (tgt := 17) hx hb hF dX6_choices_4 (by decide) (fun hF => ?_) (fun hF => ?_)
  · refine lv_aload_n (pc := 17) hx hb dX6_choices_17 rfl (lv_at hl 0 rfl) ?_
    refine gg_X6_0 (pc := 18) hx hb hown hV hw (gw_233 hV) dX6_choices_18 ?_
    refine lv_iload_n (pc := 21) hx hb dX6_choices_21 rfl (lv_at hl 1 rfl) ?_
    obtain ⟨uq_2, huq_2, hF⟩ := Option.bind_eq_some_iff.mp hF
    refine cl_X5_isFree (pc := 22) hx hb hml hown hV hw gx_w0 huq_2 (gw_723 hV) hl.1 (Nat.le_of_ble_eq_true rfl) (Nat.le_of_ble_eq_true rfl) (Nat.le_of_ble_eq_true rfl) dX6_choices_22 (fun H locs hw => ?_)
    refine gx_if_ne (pc := 25) (tgt := 38) hx hb hF dX6_choices_25 (by decide) (fun hF => ?_) (fun hF => ?_)
    · refine lv_aload_n (pc := 38) hx hb dX6_choices_38 rfl (lv_at hl 0 rfl) ?_
      refine gg_X6_6 (pc := 39) hx hb hown hV hw (gw_239 hV) dX6_choices_39 ?_
      refine lv_aload_n (pc := 42) hx hb dX6_choices_42 rfl (lv_at hl 0 rfl) ?_
      refine gg_X6_0 (pc := 43) hx hb hown hV hw (gw_233 hV) dX6_choices_43 ?_
      refine lv_iload_n (pc := 46) hx hb dX6_choices_46 rfl (lv_at hl 1 rfl) ?_
      obtain ⟨uq_3, huq_3, hF⟩ := Option.bind_eq_some_iff.mp hF
      refine cl_X1_choicesFor (pc := 47) hx hb hml hown hV hw gx_w0 huq_3 (gw_789 hV) hl.1 (Nat.le_of_ble_eq_true rfl) (Nat.le_of_ble_eq_true rfl) (Nat.le_of_ble_eq_true rfl) dX6_choices_47 (fun H locs hw => ?_)
      cases hF
      exact gx_iretX hx hb hr hlocks hw dX6_choices_50
    cases hF
    exact gx_throwNS (pc := 28) hx hb hl9 hown hlocks htab hV hZ hw (hl.1.trans hml.symm) (List.mem_of_getElem? (i := 14) rfl) (by decide) (by decide) (by decide) (by decide) dX6_choices_28 dX6_choices_31 dX6_choices_32 dX6_choices_34 dX6_choices_37
  cases hF
  exact gx_throwS (pc := 7) (i := 1) rfl (by decide +kernel) gx_kt1 hx hb hl9 hown hlocks htab hV hZ hw (hl.1.trans hml.symm) (List.mem_of_getElem? (i := 9) rfl) (by decide) (by decide) (by decide) (by decide) dX6_choices_7 dX6_choices_10 dX6_choices_11 dX6_choices_13 dX6_choices_16
set_option maxRecDepth 100000 in
theorem cx_X6_choices {l : Launch} {G : gx_G} {M : gx_S} {o : Int64} {d : UInt64} {I V : gx_F} {p : Program} {e : Env} {R : Room} {s : State} {m : MethodId} {args : Array Value} {below : List Frame} {meth : Method} {c : Code} {H : Heap} {locs : List Loc} {Q : State → Prop} {cc : ByteArray} {pc nL index : Nat} {ls : Array Slot} {rest : List Value} {own : String} {x1 : Int32} {out : ((Int32 ⊕ Nat) × gx_F × gx_F)} (hl9 : l.stackTraces = false) (hx : p.tables.exec = Jvm.exec) (hb : c.code = cc) (hml : c.maxLocals = nL) (hown : s.vm.findClass own = some m.cls) (hV : gx_V G s) (hZ : gx_Z G s s.heap) (hw : gx_at G (I, V) M o d s.heap H locs) (hF : f_X6_choices x1 I V = some out) (hlink : (Cond.methodLink own index yX6_choices).before args s = true) (hsz : ls.size = nL) (hfr : 7 ≤ R.frames) (hlo : 103 ≤ R.locals) (hrest : (rest.map fun v => v.category).sum ≤ 8) (hc : 1 ≤ R.cells) (hs : 6 ≤ R.slots) (hdg : decode cc pc = .ok (.invokevirtual index, 3))
    (kx : ∀ (i : Nat) (ce : Cell) (q8 : Addr) (H1 : Heap) (locs1 : List Loc), out.1 = .inr i → gx_at G (out.2.1, out.2.2) M o d s.heap H1 locs1 → H1[q8]? = some ce → ce.vm = .none → s.vm.findClass (gx_en i) = some ce.cls → vx_W p l e R s m args below meth c H1 locs1 1 6 Q (F0 m pc ls rest) q8)
    (kk : ∀ (q9 : Int32) (H1 : Heap) (locs1 : List Loc), out.1 = .inl q9 → gx_at G (out.2.1, out.2.2) M o d s.heap H1 locs1 → W p l e R s m args below meth c H1 locs1 1 6 Q (F0 m (pc + 3) ls (.int q9 :: rest))) : W p l e R s m args below meth c H locs 0 0 Q (F0 m pc ls (.int x1 :: .ref (G.2.1 44) :: rest)) := by
  exact vx_calli (vx_runV (C := RX6) (As := [.int x1]) (rest := rest) ⟨hx, hb, hml, hown, (fun _ h => nomatch h : ∀ w ∈ ([] : List Cond), w.before args s = true)⟩ (k_X6_choices hl9 hF) ⟨gx_callB (n := 1) rfl rfl hlink (gw_49 hV) (gw_788 hV) (by decide +kernel) ⟨hfr, hlo⟩, gw_786 hV, gw_787 hV⟩ (gx_recvX (k := 44) (ci := 8) (T := TX6) hV hZ hw (by decide) rfl rfl) rfl rfl hsz rfl (lv_room hrest) hdg ⟨hc, hs⟩) hw.2.1 (fun _ _ h => h) (fun _ h => h) (fun _ _ h => h) (fun E ce q8 i t H1 locs1 ht _ hp hB _ _ hS h1 h2 h3 => by obtain ⟨rfl, hB⟩ := hB; exact kx i ce q8 H1 locs1 hp (gx_back hw ht hB hS) h1 h2 h3) (fun r _ t H1 locs1 ht _ hp hB _ _ hS => kk r H1 locs1 hp (gx_back hw ht hB hS))
set_option maxHeartbeats 4000000 in
set_option maxRecDepth 100000 in
theorem k_X6_inRow {l : Launch} {G : gx_G} {M : gx_S} {o : Int64} {d : UInt64} {I V : gx_F} {x1 : Int32} {x2 : Int32} {out : (Int32 ⊕ Nat)} (hl9 : l.stackTraces = false) (hF : f_X6_inRow x1 x2 I V = some out) : gx_KX l yX6_inRow cX6_inRow 6 (some .int) { frames := 6, cells := 1, slots := 6, locals := 82 } [.ref (G.2.1 44), .int x1, .int x2] G (I, V) M o d (gx_QXi G out (I, V) M o d) out (I, V) := by
  refine gx_beginX (by decide +kernel) (Nat.le_of_ble_eq_true rfl) ?_
  intro p e s m below meth c hx hb hr hml hown hlocks htab hV hZ hw ls hl
  have hown : s.vm.findClass RX6 = some m.cls := hown
  have hl : lv_has ls 6 [(0, .ref (G.2.1 44)), (1, .int x1), (2, .int x2)] := hl
  unfold f_X6_inRow at hF
  refine lv_iload_n (pc := 0) hx hb dX6_inRow_0 rfl (lv_at hl 1 rfl) ?_
  refine gx_if_lt (pc := 1) (tgt := 19) hx hb hF dX6_inRow_1 (by decide) (fun hF => ?_) (fun hF => ?_)
  · cases hF
    exact gx_throwS (pc := 19) (i := 1) rfl (by decide +kernel) gx_kt1 hx hb hl9 hown hlocks htab hV hZ hw (hl.1.trans hml.symm) (List.mem_of_getElem? (i := 16) rfl) (by decide) (by decide) (by decide) (by decide) dX6_inRow_19 dX6_inRow_22 dX6_inRow_23 dX6_inRow_25 dX6_inRow_28
  refine lv_iload_n (pc := 4) hx hb dX6_inRow_4 rfl (lv_at hl 1 rfl) ?_
  refine lv_iload_n (pc := 5) hx hb dX6_inRow_5 rfl (lv_at hl 2 rfl) ?_
  refine gx_if_eq (pc := 6) (tgt := 14) hx hb hF dX6_inRow_6 (by decide) (fun hF => ?_) (fun hF => ?_)
  · refine lv_bipush (pc := 14) (v := 6) hx hb dX6_inRow_14 (by decide) ?_
    refine gx_icmp_lt (pc := 16) (tgt := 29) hx hb hF dX6_inRow_16 (by decide) (fun hF => ?_) (fun hF => ?_)
    · refine lv_iconst (pc := 29) (v := 0) hx hb dX6_inRow_29 (by decide) ?_
      refine lv_istore_n (pc := 30) (lv' := [(3, .int 0), (0, .ref (G.2.1 44)), (1, .int x1), (2, .int x2)]) hx hb dX6_inRow_30 rfl hl (by decide) rfl (fun ls hl => ?_)
      refine lv_iconst (pc := 31) (v := 0) hx hb dX6_inRow_31 (by decide) ?_
      refine lv_istore (pc := 32) (lv' := [(4, .int 0), (3, .int 0), (0, .ref (G.2.1 44)), (1, .int x1), (2, .int x2)]) hx hb dX6_inRow_32 hl (by decide) rfl (fun ls hl => ?_)
      have L1 : ∀ (n : Nat) (K1 : Int32 → Int32 → Option (Int32 ⊕ Nat)) (uv_1 : Int32) (uv_2 : Int32) (H : Heap) (locs : List Loc) (ls : Array Slot), lv_has ls 6 [(4, .int uv_2), (3, .int uv_1), (0, .ref (G.2.1 44)), (1, .int x1), (2, .int x2)] → gx_at G (I, V) M o d s.heap H locs → f_X6_inRow_L1 x1 x2 I V K1 n uv_1 uv_2 = some out → (∀ (uv_1 : Int32) (uv_2 : Int32) (H : Heap) (locs : List Loc) (ls : Array Slot), lv_has ls 6 [(4, .int uv_2), (3, .int uv_1), (0, .ref (G.2.1 44)), (1, .int x1), (2, .int x2)] → gx_at G (I, V) M o d s.heap H locs → K1 uv_1 uv_2 = some out → W p l e ({ frames := 6, cells := 1, slots := 6, locals := 82 } : Room) s m ([.ref (G.2.1 44), .int x1, .int x2] : List Value).toArray below meth c H locs 0 0 (vx_MQ below (gx_QXi G out (I, V) M o d) (gx_XX G out (I, V) M o d) ([.ref (G.2.1 44), .int x1, .int x2] : List Value).toArray s 1 6 (gx_A G)) (F0 m 87 ls [])) → W p l e ({ frames := 6, cells := 1, slots := 6, locals := 82 } : Room) s m ([.ref (G.2.1 44), .int x1, .int x2] : List Value).toArray below meth c H locs 0 0 (vx_MQ below (gx_QXi G out (I, V) M o d) (gx_XX G out (I, V) M o d) ([.ref (G.2.1 44), .int x1, .int x2] : List Value).toArray s 1 6 (gx_A G)) (F0 m 34 ls []) := by
        intro n
        induction n with
        | zero =>
          intro K1 uv_1 uv_2 H locs ls hl hw hF hK
          rw [f_X6_inRow_L1] at hF
          cases hF
        | succ n ih1 =>
          intro K1 uv_1 uv_2 H locs ls hl hw hF hK1
          rw [f_X6_inRow_L1] at hF
          refine lv_iload (pc := 34) hx hb dX6_inRow_34 (lv_at hl 0 rfl) ?_
          refine lv_bipush (pc := 36) (v := 42) hx hb dX6_inRow_36 (by decide) ?_
          refine gx_icmp_ge (pc := 38) (tgt := 87) hx hb hF dX6_inRow_38 (by decide) (fun hF => ?_) (fun hF => ?_)
          · exact hK1 _ _ _ _ _ (lv_sub hl [0, 1, 2, 3, 4] rfl) hw hF
          refine lv_iload_n (pc := 41) hx hb dX6_inRow_41 rfl (lv_at hl 4 rfl) ?_
          refine gx_if_eq (pc := 42) (tgt := 53) hx hb hF dX6_inRow_42 (by decide) (fun hF => ?_) (fun hF => ?_)
          · refine lv_iload (pc := 53) hx hb dX6_inRow_53 (lv_at hl 0 rfl) ?_
            refine lv_bipush (pc := 55) (v := 7) hx hb dX6_inRow_55 (by decide) ?_
            refine lv_idiv (pc := 57) hx hb dX6_inRow_57 (by decide) ?_
            refine lv_istore (pc := 58) (lv' := [(5, .int (uv_2 / 7)), (4, .int uv_2), (3, .int uv_1), (0, .ref (G.2.1 44)), (1, .int x1), (2, .int x2)]) hx hb dX6_inRow_58 hl (by decide) rfl (fun ls hl => ?_)
            refine lv_iload (pc := 60) hx hb dX6_inRow_60 (lv_at hl 0 rfl) ?_
            refine lv_iload_n (pc := 62) hx hb dX6_inRow_62 rfl (lv_at hl 4 rfl) ?_
            refine gx_icmp_ne (pc := 63) (tgt := 81) hx hb hF dX6_inRow_63 (by decide) (fun hF => ?_) (fun hF => ?_)
            · refine lv_iinc (pc := 81) (v := (uv_2 + 1)) (lv' := [(4, .int (uv_2 + 1)), (5, .int (uv_2 / 7)), (3, .int uv_1), (0, .ref (G.2.1 44)), (1, .int x1), (2, .int x2)]) hx hb dX6_inRow_81 hl (k := 1) rfl rfl (by decide) rfl (fun ls hl => ?_)
              refine lv_goto (pc := 84) (tgt := 34) hx hb dX6_inRow_84 (by decide) ?_
              exact ih1 _ _ _ _ _ _ (lv_sub hl [0, 2, 3, 4, 5] rfl) hw hF hK1
            refine lv_aload_n (pc := 66) hx hb dX6_inRow_66 rfl (lv_at hl 3 rfl) ?_
            refine gg_X6_0 (pc := 67) hx hb hown hV hw (gw_233 hV) dX6_inRow_67 ?_
            refine lv_iload (pc := 70) hx hb dX6_inRow_70 (lv_at hl 1 rfl) ?_
            obtain ⟨uq_3, huq_3, hF⟩ := Option.bind_eq_some_iff.mp hF
            refine cl_X5_isFree (pc := 72) hx hb hml hown hV hw gx_w0 huq_3 (gw_723 hV) hl.1 (Nat.le_of_ble_eq_true rfl) (Nat.le_of_ble_eq_true rfl) (Nat.le_of_ble_eq_true rfl) dX6_inRow_72 (fun H locs hw => ?_)
            refine gx_if_ne (pc := 75) (tgt := 81) hx hb hF dX6_inRow_75 (by decide) (fun hF => ?_) (fun hF => ?_)
            · refine lv_iinc (pc := 81) (v := (uv_2 + 1)) (lv' := [(4, .int (uv_2 + 1)), (5, .int (uv_2 / 7)), (3, .int uv_1), (0, .ref (G.2.1 44)), (1, .int x1), (2, .int x2)]) hx hb dX6_inRow_81 hl (k := 1) rfl rfl (by decide) rfl (fun ls hl => ?_)
              refine lv_goto (pc := 84) (tgt := 34) hx hb dX6_inRow_84 (by decide) ?_
              exact ih1 _ _ _ _ _ _ (lv_sub hl [0, 2, 3, 4, 5] rfl) hw hF hK1
            refine lv_iinc (pc := 78) (v := (uv_1 + 1)) (lv' := [(3, .int (uv_1 + 1)), (5, .int (uv_2 / 7)), (4, .int uv_2), (0, .ref (G.2.1 44)), (1, .int x1), (2, .int x2)]) hx hb dX6_inRow_78 hl (k := 2) rfl rfl (by decide) rfl (fun ls hl => ?_)
            refine lv_iinc (pc := 81) (v := (uv_2 + 1)) (lv' := [(4, .int (uv_2 + 1)), (3, .int (uv_1 + 1)), (5, .int (uv_2 / 7)), (0, .ref (G.2.1 44)), (1, .int x1), (2, .int x2)]) hx hb dX6_inRow_81 hl (k := 2) rfl rfl (by decide) rfl (fun ls hl => ?_)
            refine lv_goto (pc := 84) (tgt := 34) hx hb dX6_inRow_84 (by decide) ?_
            exact ih1 _ _ _ _ _ _ (lv_sub hl [0, 1, 3, 4, 5] rfl) hw hF hK1
          refine lv_iload (pc := 45) hx hb dX6_inRow_45 (lv_at hl 0 rfl) ?_
          refine lv_bipush (pc := 47) (v := 7) hx hb dX6_inRow_47 (by decide) ?_
          refine lv_irem (pc := 49) hx hb dX6_inRow_49 (by decide) ?_
          refine lv_goto (pc := 50) (tgt := 58) hx hb dX6_inRow_50 (by decide) ?_
          refine lv_istore (pc := 58) (lv' := [(5, .int (gx_rem uv_2 7)), (4, .int uv_2), (3, .int uv_1), (0, .ref (G.2.1 44)), (1, .int x1), (2, .int x2)]) hx hb dX6_inRow_58 hl (by decide) rfl (fun ls hl => ?_)
          refine lv_iload (pc := 60) hx hb dX6_inRow_60 (lv_at hl 0 rfl) ?_
          refine lv_iload_n (pc := 62) hx hb dX6_inRow_62 rfl (lv_at hl 4 rfl) ?_
          refine gx_icmp_ne (pc := 63) (tgt := 81) hx hb hF dX6_inRow_63 (by decide) (fun hF => ?_) (fun hF => ?_)
          · refine lv_iinc (pc := 81) (v := (uv_2 + 1)) (lv' := [(4, .int (uv_2 + 1)), (5, .int (gx_rem uv_2 7)), (3, .int uv_1), (0, .ref (G.2.1 44)), (1, .int x1), (2, .int x2)]) hx hb dX6_inRow_81 hl (k := 1) rfl rfl (by decide) rfl (fun ls hl => ?_)
            refine lv_goto (pc := 84) (tgt := 34) hx hb dX6_inRow_84 (by decide) ?_
            exact ih1 _ _ _ _ _ _ (lv_sub hl [0, 2, 3, 4, 5] rfl) hw hF hK1
          refine lv_aload_n (pc := 66) hx hb dX6_inRow_66 rfl (lv_at hl 3 rfl) ?_
          refine gg_X6_0 (pc := 67) hx hb hown hV hw (gw_233 hV) dX6_inRow_67 ?_
          refine lv_iload (pc := 70) hx hb dX6_inRow_70 (lv_at hl 1 rfl) ?_
          obtain ⟨uq_4, huq_4, hF⟩ := Option.bind_eq_some_iff.mp hF
          refine cl_X5_isFree (pc := 72) hx hb hml hown hV hw gx_w0 huq_4 (gw_723 hV) hl.1 (Nat.le_of_ble_eq_true rfl) (Nat.le_of_ble_eq_true rfl) (Nat.le_of_ble_eq_true rfl) dX6_inRow_72 (fun H locs hw => ?_)
          refine gx_if_ne (pc := 75) (tgt := 81) hx hb hF dX6_inRow_75 (by decide) (fun hF => ?_) (fun hF => ?_)
          · refine lv_iinc (pc := 81) (v := (uv_2 + 1)) (lv' := [(4, .int (uv_2 + 1)), (5, .int (gx_rem uv_2 7)), (3, .int uv_1), (0, .ref (G.2.1 44)), (1, .int x1), (2, .int x2)]) hx hb dX6_inRow_81 hl (k := 1) rfl rfl (by decide) rfl (fun ls hl => ?_)
            refine lv_goto (pc := 84) (tgt := 34) hx hb dX6_inRow_84 (by decide) ?_
            exact ih1 _ _ _ _ _ _ (lv_sub hl [0, 2, 3, 4, 5] rfl) hw hF hK1
          refine lv_iinc (pc := 78) (v := (uv_1 + 1)) (lv' := [(3, .int (uv_1 + 1)), (5, .int (gx_rem uv_2 7)), (4, .int uv_2), (0, .ref (G.2.1 44)), (1, .int x1), (2, .int x2)]) hx hb dX6_inRow_78 hl (k := 2) rfl rfl (by decide) rfl (fun ls hl => ?_)
          refine lv_iinc (pc := 81) (v := (uv_2 + 1)) (lv' := [(4, .int (uv_2 + 1)), (3, .int (uv_1 + 1)), (5, .int (gx_rem uv_2 7)), (0, .ref (G.2.1 44)), (1, .int x1), (2, .int x2)]) hx hb dX6_inRow_81 hl (k := 2) rfl rfl (by decide) rfl (fun ls hl => ?_)
          refine lv_goto (pc := 84) (tgt := 34) hx hb dX6_inRow_84 (by decide) ?_
          exact ih1 _ _ _ _ _ _ (lv_sub hl [0, 1, 3, 4, 5] rfl) hw hF hK1
      refine L1 1000 _ _ _ _ _ _ hl hw hF (fun uv_5 uv_6 H locs ls hl hw hF => ?_)
      refine lv_iload_n (pc := 87) hx hb dX6_inRow_87 rfl (lv_at hl 1 rfl) ?_
      cases hF
      exact gx_iretX hx hb hr hlocks hw dX6_inRow_88
    cases hF
    exact gx_throwS (pc := 19) (i := 1) rfl (by decide +kernel) gx_kt1 hx hb hl9 hown hlocks htab hV hZ hw (hl.1.trans hml.symm) (List.mem_of_getElem? (i := 16) rfl) (by decide) (by decide) (by decide) (by decide) dX6_inRow_19 dX6_inRow_22 dX6_inRow_23 dX6_inRow_25 dX6_inRow_28
  refine lv_bipush (pc := 9) (v := 7) hx hb dX6_inRow_9 (by decide) ?_
  refine lv_goto (pc := 11) (tgt := 16) hx hb dX6_inRow_11 (by decide) ?_
  refine gx_icmp_lt (pc := 16) (tgt := 29) hx hb hF dX6_inRow_16 (by decide) (fun hF => ?_) (fun hF => ?_)
  · refine lv_iconst (pc := 29) (v := 0) hx hb dX6_inRow_29 (by decide) ?_
    refine lv_istore_n (pc := 30) (lv' := [(3, .int 0), (0, .ref (G.2.1 44)), (1, .int x1), (2, .int x2)]) hx hb dX6_inRow_30 rfl hl (by decide) rfl (fun ls hl => ?_)
    refine lv_iconst (pc := 31) (v := 0) hx hb dX6_inRow_31 (by decide) ?_
    refine lv_istore (pc := 32) (lv' := [(4, .int 0), (3, .int 0), (0, .ref (G.2.1 44)), (1, .int x1), (2, .int x2)]) hx hb dX6_inRow_32 hl (by decide) rfl (fun ls hl => ?_)
    have L2 : ∀ (n : Nat) (K2 : Int32 → Int32 → Option (Int32 ⊕ Nat)) (uv_7 : Int32) (uv_8 : Int32) (H : Heap) (locs : List Loc) (ls : Array Slot), lv_has ls 6 [(4, .int uv_8), (3, .int uv_7), (0, .ref (G.2.1 44)), (1, .int x1), (2, .int x2)] → gx_at G (I, V) M o d s.heap H locs → f_X6_inRow_L2 x1 x2 I V K2 n uv_7 uv_8 = some out → (∀ (uv_7 : Int32) (uv_8 : Int32) (H : Heap) (locs : List Loc) (ls : Array Slot), lv_has ls 6 [(4, .int uv_8), (3, .int uv_7), (0, .ref (G.2.1 44)), (1, .int x1), (2, .int x2)] → gx_at G (I, V) M o d s.heap H locs → K2 uv_7 uv_8 = some out → W p l e ({ frames := 6, cells := 1, slots := 6, locals := 82 } : Room) s m ([.ref (G.2.1 44), .int x1, .int x2] : List Value).toArray below meth c H locs 0 0 (vx_MQ below (gx_QXi G out (I, V) M o d) (gx_XX G out (I, V) M o d) ([.ref (G.2.1 44), .int x1, .int x2] : List Value).toArray s 1 6 (gx_A G)) (F0 m 87 ls [])) → W p l e ({ frames := 6, cells := 1, slots := 6, locals := 82 } : Room) s m ([.ref (G.2.1 44), .int x1, .int x2] : List Value).toArray below meth c H locs 0 0 (vx_MQ below (gx_QXi G out (I, V) M o d) (gx_XX G out (I, V) M o d) ([.ref (G.2.1 44), .int x1, .int x2] : List Value).toArray s 1 6 (gx_A G)) (F0 m 34 ls []) := by
      intro n
      induction n with
      | zero =>
        intro K2 uv_7 uv_8 H locs ls hl hw hF hK
        rw [f_X6_inRow_L2] at hF
        cases hF
      | succ n ih2 =>
        intro K2 uv_7 uv_8 H locs ls hl hw hF hK2
        rw [f_X6_inRow_L2] at hF
        refine lv_iload (pc := 34) hx hb dX6_inRow_34 (lv_at hl 0 rfl) ?_
        refine lv_bipush (pc := 36) (v := 42) hx hb dX6_inRow_36 (by decide) ?_
        refine gx_icmp_ge (pc := 38) (tgt := 87) hx hb hF dX6_inRow_38 (by decide) (fun hF => ?_) (fun hF => ?_)
        · exact hK2 _ _ _ _ _ (lv_sub hl [0, 1, 2, 3, 4] rfl) hw hF
        refine lv_iload_n (pc := 41) hx hb dX6_inRow_41 rfl (lv_at hl 4 rfl) ?_
        refine gx_if_eq (pc := 42) (tgt := 53) hx hb hF dX6_inRow_42 (by decide) (fun hF => ?_) (fun hF => ?_)
        · refine lv_iload (pc := 53) hx hb dX6_inRow_53 (lv_at hl 0 rfl) ?_
          refine lv_bipush (pc := 55) (v := 7) hx hb dX6_inRow_55 (by decide) ?_
          refine lv_idiv (pc := 57) hx hb dX6_inRow_57 (by decide) ?_
          refine lv_istore (pc := 58) (lv' := [(5, .int (uv_8 / 7)), (4, .int uv_8), (3, .int uv_7), (0, .ref (G.2.1 44)), (1, .int x1), (2, .int x2)]) hx hb dX6_inRow_58 hl (by decide) rfl (fun ls hl => ?_)
          refine lv_iload (pc := 60) hx hb dX6_inRow_60 (lv_at hl 0 rfl) ?_
          refine lv_iload_n (pc := 62) hx hb dX6_inRow_62 rfl (lv_at hl 4 rfl) ?_
          refine gx_icmp_ne (pc := 63) (tgt := 81) hx hb hF dX6_inRow_63 (by decide) (fun hF => ?_) (fun hF => ?_)
          · refine lv_iinc (pc := 81) (v := (uv_8 + 1)) (lv' := [(4, .int (uv_8 + 1)), (5, .int (uv_8 / 7)), (3, .int uv_7), (0, .ref (G.2.1 44)), (1, .int x1), (2, .int x2)]) hx hb dX6_inRow_81 hl (k := 1) rfl rfl (by decide) rfl (fun ls hl => ?_)
            refine lv_goto (pc := 84) (tgt := 34) hx hb dX6_inRow_84 (by decide) ?_
            exact ih2 _ _ _ _ _ _ (lv_sub hl [0, 2, 3, 4, 5] rfl) hw hF hK2
          refine lv_aload_n (pc := 66) hx hb dX6_inRow_66 rfl (lv_at hl 3 rfl) ?_
          refine gg_X6_0 (pc := 67) hx hb hown hV hw (gw_233 hV) dX6_inRow_67 ?_
          refine lv_iload (pc := 70) hx hb dX6_inRow_70 (lv_at hl 1 rfl) ?_
          obtain ⟨uq_9, huq_9, hF⟩ := Option.bind_eq_some_iff.mp hF
          refine cl_X5_isFree (pc := 72) hx hb hml hown hV hw gx_w0 huq_9 (gw_723 hV) hl.1 (Nat.le_of_ble_eq_true rfl) (Nat.le_of_ble_eq_true rfl) (Nat.le_of_ble_eq_true rfl) dX6_inRow_72 (fun H locs hw => ?_)
          refine gx_if_ne (pc := 75) (tgt := 81) hx hb hF dX6_inRow_75 (by decide) (fun hF => ?_) (fun hF => ?_)
          · refine lv_iinc (pc := 81) (v := (uv_8 + 1)) (lv' := [(4, .int (uv_8 + 1)), (5, .int (uv_8 / 7)), (3, .int uv_7), (0, .ref (G.2.1 44)), (1, .int x1), (2, .int x2)]) hx hb dX6_inRow_81 hl (k := 1) rfl rfl (by decide) rfl (fun ls hl => ?_)
            refine lv_goto (pc := 84) (tgt := 34) hx hb dX6_inRow_84 (by decide) ?_
            exact ih2 _ _ _ _ _ _ (lv_sub hl [0, 2, 3, 4, 5] rfl) hw hF hK2
          refine lv_iinc (pc := 78) (v := (uv_7 + 1)) (lv' := [(3, .int (uv_7 + 1)), (5, .int (uv_8 / 7)), (4, .int uv_8), (0, .ref (G.2.1 44)), (1, .int x1), (2, .int x2)]) hx hb dX6_inRow_78 hl (k := 2) rfl rfl (by decide) rfl (fun ls hl => ?_)
          refine lv_iinc (pc := 81) (v := (uv_8 + 1)) (lv' := [(4, .int (uv_8 + 1)), (3, .int (uv_7 + 1)), (5, .int (uv_8 / 7)), (0, .ref (G.2.1 44)), (1, .int x1), (2, .int x2)]) hx hb dX6_inRow_81 hl (k := 2) rfl rfl (by decide) rfl (fun ls hl => ?_)
          refine lv_goto (pc := 84) (tgt := 34) hx hb dX6_inRow_84 (by decide) ?_
          exact ih2 _ _ _ _ _ _ (lv_sub hl [0, 1, 3, 4, 5] rfl) hw hF hK2
        refine lv_iload (pc := 45) hx hb dX6_inRow_45 (lv_at hl 0 rfl) ?_
        refine lv_bipush (pc := 47) (v := 7) hx hb dX6_inRow_47 (by decide) ?_
        refine lv_irem (pc := 49) hx hb dX6_inRow_49 (by decide) ?_
        refine lv_goto (pc := 50) (tgt := 58) hx hb dX6_inRow_50 (by decide) ?_
        refine lv_istore (pc := 58) (lv' := [(5, .int (gx_rem uv_8 7)), (4, .int uv_8), (3, .int uv_7), (0, .ref (G.2.1 44)), (1, .int x1), (2, .int x2)]) hx hb dX6_inRow_58 hl (by decide) rfl (fun ls hl => ?_)
        refine lv_iload (pc := 60) hx hb dX6_inRow_60 (lv_at hl 0 rfl) ?_
        refine lv_iload_n (pc := 62) hx hb dX6_inRow_62 rfl (lv_at hl 4 rfl) ?_
        refine gx_icmp_ne (pc := 63) (tgt := 81) hx hb hF dX6_inRow_63 (by decide) (fun hF => ?_) (fun hF => ?_)
        · refine lv_iinc (pc := 81) (v := (uv_8 + 1)) (lv' := [(4, .int (uv_8 + 1)), (5, .int (gx_rem uv_8 7)), (3, .int uv_7), (0, .ref (G.2.1 44)), (1, .int x1), (2, .int x2)]) hx hb dX6_inRow_81 hl (k := 1) rfl rfl (by decide) rfl (fun ls hl => ?_)
          refine lv_goto (pc := 84) (tgt := 34) hx hb dX6_inRow_84 (by decide) ?_
          exact ih2 _ _ _ _ _ _ (lv_sub hl [0, 2, 3, 4, 5] rfl) hw hF hK2
        refine lv_aload_n (pc := 66) hx hb dX6_inRow_66 rfl (lv_at hl 3 rfl) ?_
        refine gg_X6_0 (pc := 67) hx hb hown hV hw (gw_233 hV) dX6_inRow_67 ?_
        refine lv_iload (pc := 70) hx hb dX6_inRow_70 (lv_at hl 1 rfl) ?_
        obtain ⟨uq_10, huq_10, hF⟩ := Option.bind_eq_some_iff.mp hF
        refine cl_X5_isFree (pc := 72) hx hb hml hown hV hw gx_w0 huq_10 (gw_723 hV) hl.1 (Nat.le_of_ble_eq_true rfl) (Nat.le_of_ble_eq_true rfl) (Nat.le_of_ble_eq_true rfl) dX6_inRow_72 (fun H locs hw => ?_)
        refine gx_if_ne (pc := 75) (tgt := 81) hx hb hF dX6_inRow_75 (by decide) (fun hF => ?_) (fun hF => ?_)
        · refine lv_iinc (pc := 81) (v := (uv_8 + 1)) (lv' := [(4, .int (uv_8 + 1)), (5, .int (gx_rem uv_8 7)), (3, .int uv_7), (0, .ref (G.2.1 44)), (1, .int x1), (2, .int x2)]) hx hb dX6_inRow_81 hl (k := 1) rfl rfl (by decide) rfl (fun ls hl => ?_)
          refine lv_goto (pc := 84) (tgt := 34) hx hb dX6_inRow_84 (by decide) ?_
          exact ih2 _ _ _ _ _ _ (lv_sub hl [0, 2, 3, 4, 5] rfl) hw hF hK2
        refine lv_iinc (pc := 78) (v := (uv_7 + 1)) (lv' := [(3, .int (uv_7 + 1)), (5, .int (gx_rem uv_8 7)), (4, .int uv_8), (0, .ref (G.2.1 44)), (1, .int x1), (2, .int x2)]) hx hb dX6_inRow_78 hl (k := 2) rfl rfl (by decide) rfl (fun ls hl => ?_)
        refine lv_iinc (pc := 81) (v := (uv_8 + 1)) (lv' := [(4, .int (uv_8 + 1)), (3, .int (uv_7 + 1)), (5, .int (gx_rem uv_8 7)), (0, .ref (G.2.1 44)), (1, .int x1), (2, .int x2)]) hx hb dX6_inRow_81 hl (k := 2) rfl rfl (by decide) rfl (fun ls hl => ?_)
        refine lv_goto (pc := 84) (tgt := 34) hx hb dX6_inRow_84 (by decide) ?_
        exact ih2 _ _ _ _ _ _ (lv_sub hl [0, 1, 3, 4, 5] rfl) hw hF hK2
    refine L2 1000 _ _ _ _ _ _ hl hw hF (fun uv_11 uv_12 H locs ls hl hw hF => ?_)
    refine lv_iload_n (pc := 87) hx hb dX6_inRow_87 rfl (lv_at hl 1 rfl) ?_
    cases hF
    exact gx_iretX hx hb hr hlocks hw dX6_inRow_88
  cases hF
  exact gx_throwS (pc := 19) (i := 1) rfl (by decide +kernel) gx_kt1 hx hb hl9 hown hlocks htab hV hZ hw (hl.1.trans hml.symm) (List.mem_of_getElem? (i := 16) rfl) (by decide) (by decide) (by decide) (by decide) dX6_inRow_19 dX6_inRow_22 dX6_inRow_23 dX6_inRow_25 dX6_inRow_28
set_option maxRecDepth 100000 in
theorem cx_X6_inRow {l : Launch} {G : gx_G} {M : gx_S} {o : Int64} {d : UInt64} {I V : gx_F} {p : Program} {e : Env} {R : Room} {s : State} {m : MethodId} {args : Array Value} {below : List Frame} {meth : Method} {c : Code} {H : Heap} {locs : List Loc} {Q : State → Prop} {cc : ByteArray} {pc nL index : Nat} {ls : Array Slot} {rest : List Value} {own : String} {x1 : Int32} {x2 : Int32} {out : (Int32 ⊕ Nat)} (hl9 : l.stackTraces = false) (hx : p.tables.exec = Jvm.exec) (hb : c.code = cc) (hml : c.maxLocals = nL) (hown : s.vm.findClass own = some m.cls) (hV : gx_V G s) (hZ : gx_Z G s s.heap) (hw : gx_at G (I, V) M o d s.heap H locs) (hF : f_X6_inRow x1 x2 I V = some out) (hlink : (Cond.methodLink own index yX6_inRow).before args s = true) (hsz : ls.size = nL) (hfr : 7 ≤ R.frames) (hlo : 107 ≤ R.locals) (hrest : (rest.map fun v => v.category).sum ≤ 8) (hc : 1 ≤ R.cells) (hs : 6 ≤ R.slots) (hdg : decode cc pc = .ok (.invokevirtual index, 3))
    (kx : ∀ (i : Nat) (ce : Cell) (q8 : Addr) (H1 : Heap) (locs1 : List Loc), out = .inr i → gx_at G (I, V) M o d s.heap H1 locs1 → H1[q8]? = some ce → ce.vm = .none → s.vm.findClass (gx_en i) = some ce.cls → vx_W p l e R s m args below meth c H1 locs1 1 6 Q (F0 m pc ls rest) q8)
    (kk : ∀ (q9 : Int32) (H1 : Heap) (locs1 : List Loc), out = .inl q9 → gx_at G (I, V) M o d s.heap H1 locs1 → W p l e R s m args below meth c H1 locs1 1 6 Q (F0 m (pc + 3) ls (.int q9 :: rest))) : W p l e R s m args below meth c H locs 0 0 Q (F0 m pc ls (.int x2 :: .int x1 :: .ref (G.2.1 44) :: rest)) := by
  exact vx_calli (vx_runV (C := RX6) (As := [.int x1, .int x2]) (rest := rest) ⟨hx, hb, hml, hown, (fun _ h => nomatch h : ∀ w ∈ ([] : List Cond), w.before args s = true)⟩ (k_X6_inRow hl9 hF) ⟨gx_callB (n := 2) rfl rfl hlink (gw_49 hV) (gw_799 hV) (by decide +kernel) ⟨hfr, hlo⟩, gw_797 hV, gw_798 hV⟩ (gx_recvX (k := 44) (ci := 8) (T := TX6) hV hZ hw (by decide) rfl rfl) rfl rfl hsz rfl (lv_room hrest) hdg ⟨hc, hs⟩) hw.2.1 (fun _ _ h => h) (fun _ h => h) (fun _ _ h => h) (fun E ce q8 i t H1 locs1 ht _ hp hB _ _ hS h1 h2 h3 => by obtain ⟨rfl, hB⟩ := hB; exact kx i ce q8 H1 locs1 hp (gx_back hw ht hB hS) h1 h2 h3) (fun r _ t H1 locs1 ht _ hp hB _ _ hS => kk r H1 locs1 hp (gx_back hw ht hB hS))
set_option maxHeartbeats 4000000 in
set_option maxRecDepth 100000 in
theorem k_X6_weakest {l : Launch} {G : gx_G} {M : gx_S} {o : Int64} {d : UInt64} {I V : gx_F} {x1 : Int32} {out : (Int32 ⊕ Nat)} (hl9 : l.stackTraces = false) (hF : f_X6_weakest x1 I V = some out) : gx_KX l yX6_weakest cX6_weakest 3 (some .int) { frames := 6, cells := 1, slots := 6, locals := 95 } [.ref (G.2.1 44), .int x1] G (I, V) M o d (gx_QXi G out (I, V) M o d) out (I, V) := by
  refine gx_beginX (by decide +kernel) (Nat.le_of_ble_eq_true rfl) ?_
  intro p e s m below meth c hx hb hr hml hown hlocks htab hV hZ hw ls hl
  have hown : s.vm.findClass RX6 = some m.cls := hown
  have hl : lv_has ls 3 [(0, .ref (G.2.1 44)), (1, .int x1)] := hl
  unfold f_X6_weakest at hF
  refine lv_aload_n (pc := 0) hx hb dX6_weakest_0 rfl (lv_at hl 0 rfl) ?_
  refine lv_iload_n (pc := 1) hx hb dX6_weakest_1 rfl (lv_at hl 1 rfl) ?_
  obtain ⟨uq_1, huq_1, hF⟩ := Option.bind_eq_some_iff.mp hF
  refine cl_X6_placeByHold (pc := 2) hx hb hml hown hV hw huq_1 (gw_808 hV) hl.1 (Nat.le_of_ble_eq_true rfl) (Nat.le_of_ble_eq_true rfl) (Nat.le_of_ble_eq_true rfl) dX6_weakest_2 (fun H locs hw => ?_)
  refine lv_istore_n (pc := 5) (lv' := [(2, .int uq_1), (0, .ref (G.2.1 44)), (1, .int x1)]) hx hb dX6_weakest_5 rfl hl (by decide) rfl (fun ls hl => ?_)
  refine lv_iload_n (pc := 6) hx hb dX6_weakest_6 rfl (lv_at hl 0 rfl) ?_
  refine lv_iconst (pc := 7) (v := (-1)) hx hb dX6_weakest_7 (by decide) ?_
  refine gx_icmp_ne (pc := 8) (tgt := 21) hx hb hF dX6_weakest_8 (by decide) (fun hF => ?_) (fun hF => ?_)
  · refine lv_iload_n (pc := 21) hx hb dX6_weakest_21 rfl (lv_at hl 0 rfl) ?_
    cases hF
    exact gx_iretX hx hb hr hlocks hw dX6_weakest_22
  cases hF
  exact gx_throwNS (pc := 11) hx hb hl9 hown hlocks htab hV hZ hw (hl.1.trans hml.symm) (List.mem_of_getElem? (i := 17) rfl) (by decide) (by decide) (by decide) (by decide) dX6_weakest_11 dX6_weakest_14 dX6_weakest_15 dX6_weakest_17 dX6_weakest_20
set_option maxRecDepth 100000 in
theorem cx_X6_weakest {l : Launch} {G : gx_G} {M : gx_S} {o : Int64} {d : UInt64} {I V : gx_F} {p : Program} {e : Env} {R : Room} {s : State} {m : MethodId} {args : Array Value} {below : List Frame} {meth : Method} {c : Code} {H : Heap} {locs : List Loc} {Q : State → Prop} {cc : ByteArray} {pc nL index : Nat} {ls : Array Slot} {rest : List Value} {own : String} {x1 : Int32} {out : (Int32 ⊕ Nat)} (hl9 : l.stackTraces = false) (hx : p.tables.exec = Jvm.exec) (hb : c.code = cc) (hml : c.maxLocals = nL) (hown : s.vm.findClass own = some m.cls) (hV : gx_V G s) (hZ : gx_Z G s s.heap) (hw : gx_at G (I, V) M o d s.heap H locs) (hF : f_X6_weakest x1 I V = some out) (hlink : (Cond.methodLink own index yX6_weakest).before args s = true) (hsz : ls.size = nL) (hfr : 7 ≤ R.frames) (hlo : 117 ≤ R.locals) (hrest : (rest.map fun v => v.category).sum ≤ 8) (hc : 1 ≤ R.cells) (hs : 6 ≤ R.slots) (hdg : decode cc pc = .ok (.invokevirtual index, 3))
    (kx : ∀ (i : Nat) (ce : Cell) (q8 : Addr) (H1 : Heap) (locs1 : List Loc), out = .inr i → gx_at G (I, V) M o d s.heap H1 locs1 → H1[q8]? = some ce → ce.vm = .none → s.vm.findClass (gx_en i) = some ce.cls → vx_W p l e R s m args below meth c H1 locs1 1 6 Q (F0 m pc ls rest) q8)
    (kk : ∀ (q9 : Int32) (H1 : Heap) (locs1 : List Loc), out = .inl q9 → gx_at G (I, V) M o d s.heap H1 locs1 → W p l e R s m args below meth c H1 locs1 1 6 Q (F0 m (pc + 3) ls (.int q9 :: rest))) : W p l e R s m args below meth c H locs 0 0 Q (F0 m pc ls (.int x1 :: .ref (G.2.1 44) :: rest)) := by
  exact vx_calli (vx_runV (C := RX6) (As := [.int x1]) (rest := rest) ⟨hx, hb, hml, hown, (fun _ h => nomatch h : ∀ w ∈ ([] : List Cond), w.before args s = true)⟩ (k_X6_weakest hl9 hF) ⟨gx_callB (n := 1) rfl rfl hlink (gw_49 hV) (gw_807 hV) (by decide +kernel) ⟨hfr, hlo⟩, gw_805 hV, gw_806 hV⟩ (gx_recvX (k := 44) (ci := 8) (T := TX6) hV hZ hw (by decide) rfl rfl) rfl rfl hsz rfl (lv_room hrest) hdg ⟨hc, hs⟩) hw.2.1 (fun _ _ h => h) (fun _ h => h) (fun _ _ h => h) (fun E ce q8 i t H1 locs1 ht _ hp hB _ _ hS h1 h2 h3 => by obtain ⟨rfl, hB⟩ := hB; exact kx i ce q8 H1 locs1 hp (gx_back hw ht hB hS) h1 h2 h3) (fun r _ t H1 locs1 ht _ hp hB _ _ hS => kk r H1 locs1 hp (gx_back hw ht hB hS))
set_option maxHeartbeats 4000000 in
set_option maxRecDepth 100000 in
theorem k_X6_append {l : Launch} {G : gx_G} {M : gx_S} {o : Int64} {d : UInt64} {I V : gx_F} {x1 : Int32} {out : ((Int32 ⊕ Nat) × gx_F × gx_F)} (hl9 : l.stackTraces = false) (hF : f_X6_append x1 I V = some out) : gx_KX l yX6_append cX6_append 2 (some .int) { frames := 6, cells := 1, slots := 6, locals := 82 } [.ref (G.2.1 44), .int x1] G (I, V) M o d (gx_QXi G out.1 (out.2.1, out.2.2) M o d) out.1 (out.2.1, out.2.2) := by
  refine gx_beginX (by decide +kernel) (Nat.le_of_ble_eq_true rfl) ?_
  intro p e s m below meth c hx hb hr hml hown hlocks htab hV hZ hw ls hl
  have hown : s.vm.findClass RX6 = some m.cls := hown
  have hl : lv_has ls 2 [(0, .ref (G.2.1 44)), (1, .int x1)] := hl
  unfold f_X6_append at hF
  refine lv_aload_n (pc := 0) hx hb dX6_append_0 rfl (lv_at hl 0 rfl) ?_
  refine gg_X6_9 (pc := 1) hx hb hown hV hw (gw_242 hV) dX6_append_1 ?_
  obtain ⟨uq_1, huq_1, hF⟩ := Option.bind_eq_some_iff.mp hF
  refine cl_X4_isFull (pc := 4) hx hb hml hown hV hw huq_1 (gw_821 hV) hl.1 (Nat.le_of_ble_eq_true rfl) (Nat.le_of_ble_eq_true rfl) (Nat.le_of_ble_eq_true rfl) dX6_append_4 (fun H locs hw => ?_)
  refine gx_if_eq (pc := 7) (tgt := 20) hx hb hF dX6_append_7 (by decide) (fun hF => ?_) (fun hF => ?_)
  · refine lv_aload_n (pc := 20) hx hb dX6_append_20 rfl (lv_at hl 0 rfl) ?_
    refine gg_X6_9 (pc := 21) hx hb hown hV hw (gw_242 hV) dX6_append_21 ?_
    refine lv_iload_n (pc := 24) hx hb dX6_append_24 rfl (lv_at hl 1 rfl) ?_
    obtain ⟨uq_2, huq_2, hF⟩ := Option.bind_eq_some_iff.mp hF
    refine cl_X4_add (pc := 25) hx hb hml hown hV hw huq_2 (gw_841 hV) hl.1 (Nat.le_of_ble_eq_true rfl) (Nat.le_of_ble_eq_true rfl) (Nat.le_of_ble_eq_true rfl) dX6_append_25 (fun H locs hw => ?_)
    cases hF
    exact gx_iretX hx hb hr hlocks hw dX6_append_28
  cases hF
  exact gx_throwS (pc := 10) (i := 4) rfl (by decide +kernel) gx_kt4 hx hb hl9 hown hlocks htab hV hZ hw (hl.1.trans hml.symm) (List.mem_of_getElem? (i := 18) rfl) (by decide) (by decide) (by decide) (by decide) dX6_append_10 dX6_append_13 dX6_append_14 dX6_append_16 dX6_append_19
set_option maxRecDepth 100000 in
theorem cx_X6_append {l : Launch} {G : gx_G} {M : gx_S} {o : Int64} {d : UInt64} {I V : gx_F} {p : Program} {e : Env} {R : Room} {s : State} {m : MethodId} {args : Array Value} {below : List Frame} {meth : Method} {c : Code} {H : Heap} {locs : List Loc} {Q : State → Prop} {cc : ByteArray} {pc nL index : Nat} {ls : Array Slot} {rest : List Value} {own : String} {x1 : Int32} {out : ((Int32 ⊕ Nat) × gx_F × gx_F)} (hl9 : l.stackTraces = false) (hx : p.tables.exec = Jvm.exec) (hb : c.code = cc) (hml : c.maxLocals = nL) (hown : s.vm.findClass own = some m.cls) (hV : gx_V G s) (hZ : gx_Z G s s.heap) (hw : gx_at G (I, V) M o d s.heap H locs) (hF : f_X6_append x1 I V = some out) (hlink : (Cond.methodLink own index yX6_append).before args s = true) (hsz : ls.size = nL) (hfr : 7 ≤ R.frames) (hlo : 103 ≤ R.locals) (hrest : (rest.map fun v => v.category).sum ≤ 8) (hc : 1 ≤ R.cells) (hs : 6 ≤ R.slots) (hdg : decode cc pc = .ok (.invokevirtual index, 3))
    (kx : ∀ (i : Nat) (ce : Cell) (q8 : Addr) (H1 : Heap) (locs1 : List Loc), out.1 = .inr i → gx_at G (out.2.1, out.2.2) M o d s.heap H1 locs1 → H1[q8]? = some ce → ce.vm = .none → s.vm.findClass (gx_en i) = some ce.cls → vx_W p l e R s m args below meth c H1 locs1 1 6 Q (F0 m pc ls rest) q8)
    (kk : ∀ (q9 : Int32) (H1 : Heap) (locs1 : List Loc), out.1 = .inl q9 → gx_at G (out.2.1, out.2.2) M o d s.heap H1 locs1 → W p l e R s m args below meth c H1 locs1 1 6 Q (F0 m (pc + 3) ls (.int q9 :: rest))) : W p l e R s m args below meth c H locs 0 0 Q (F0 m pc ls (.int x1 :: .ref (G.2.1 44) :: rest)) := by
  exact vx_calli (vx_runV (C := RX6) (As := [.int x1]) (rest := rest) ⟨hx, hb, hml, hown, (fun _ h => nomatch h : ∀ w ∈ ([] : List Cond), w.before args s = true)⟩ (k_X6_append hl9 hF) ⟨gx_callB (n := 1) rfl rfl hlink (gw_49 hV) (gw_820 hV) (by decide +kernel) ⟨hfr, hlo⟩, gw_818 hV, gw_819 hV⟩ (gx_recvX (k := 44) (ci := 8) (T := TX6) hV hZ hw (by decide) rfl rfl) rfl rfl hsz rfl (lv_room hrest) hdg ⟨hc, hs⟩) hw.2.1 (fun _ _ h => h) (fun _ h => h) (fun _ _ h => h) (fun E ce q8 i t H1 locs1 ht _ hp hB _ _ hS h1 h2 h3 => by obtain ⟨rfl, hB⟩ := hB; exact kx i ce q8 H1 locs1 hp (gx_back hw ht hB hS) h1 h2 h3) (fun r _ t H1 locs1 ht _ hp hB _ _ hS => kk r H1 locs1 hp (gx_back hw ht hB hS))
set_option maxHeartbeats 4000000 in
set_option maxRecDepth 100000 in
theorem k_X6_commands {l : Launch} {G : gx_G} {M : gx_S} {o : Int64} {d : UInt64} {I V : gx_F} {out : ((Int32 ⊕ Nat) × gx_F × gx_F)} (hl9 : l.stackTraces = false) (hF : f_X6_commands I V = some out) : gx_KX l yX6_commands cX6_commands 2 (some .int) { frames := 7, cells := 1, slots := 6, locals := 170 } [.ref (G.2.1 44)] G (I, V) M o d (gx_QXi G out.1 (out.2.1, out.2.2) M o d) out.1 (out.2.1, out.2.2) := by
  refine gx_beginX (by decide +kernel) (Nat.le_of_ble_eq_true rfl) ?_
  intro p e s m below meth c hx hb hr hml hown hlocks htab hV hZ hw ls hl
  have hown : s.vm.findClass RX6 = some m.cls := hown
  have hl : lv_has ls 2 [(0, .ref (G.2.1 44))] := hl
  unfold f_X6_commands at hF
  refine lv_aload_n (pc := 0) hx hb dX6_commands_0 rfl (lv_at hl 0 rfl) ?_
  refine lv_aload_n (pc := 1) hx hb dX6_commands_1 rfl (lv_at hl 0 rfl) ?_
  refine gg_X6_9 (pc := 2) hx hb hown hV hw (gw_242 hV) dX6_commands_2 ?_
  obtain ⟨uq_1, huq_1, hF⟩ := Option.bind_eq_some_iff.mp hF
  refine cl_X4_read (pc := 5) hx hb hml hown hV hw huq_1 (gw_853 hV) hl.1 (Nat.le_of_ble_eq_true rfl) (Nat.le_of_ble_eq_true rfl) (Nat.le_of_ble_eq_true rfl) dX6_commands_5 (fun H locs hw => ?_)
  refine gp_X6_10 (pc := 8) hx hb hown hV hw (gw_243 hV) dX6_commands_8 (fun H locs hw => ?_)
  refine lv_aload_n (pc := 11) hx hb dX6_commands_11 rfl (lv_at hl 0 rfl) ?_
  refine gg_X6_9 (pc := 12) hx hb hown hV hw (gw_242 hV) dX6_commands_12 ?_
  obtain ⟨uq_2, huq_2, hF⟩ := Option.bind_eq_some_iff.mp hF
  refine cl_X4_clear (pc := 15) hx hb hml hown hV hw huq_2 (gw_893 hV) hl.1 (Nat.le_of_ble_eq_true rfl) (Nat.le_of_ble_eq_true rfl) (Nat.le_of_ble_eq_true rfl) dX6_commands_15 (fun H locs hw => ?_)
  refine lv_aload_n (pc := 18) hx hb dX6_commands_18 rfl (lv_at hl 0 rfl) ?_
  refine gg_X6_10 (pc := 19) hx hb hown hV hw (gw_243 hV) dX6_commands_19 ?_
  refine lv_iconst (pc := 22) (v := (-1)) hx hb dX6_commands_22 (by decide) ?_
  refine gx_icmp_eq (pc := 23) (tgt := 37) hx hb hF dX6_commands_23 (by decide) (fun hF => ?_) (fun hF => ?_)
  · refine lv_aload_n (pc := 37) hx hb dX6_commands_37 rfl (lv_at hl 0 rfl) ?_
    refine gg_X6_1 (pc := 38) hx hb hown hV hw (gw_234 hV) dX6_commands_38 ?_
    refine lv_aload_n (pc := 41) hx hb dX6_commands_41 rfl (lv_at hl 0 rfl) ?_
    refine gg_X6_0 (pc := 42) hx hb hown hV hw (gw_233 hV) dX6_commands_42 ?_
    obtain ⟨uq_3, huq_3, hF⟩ := Option.bind_eq_some_iff.mp hF
    refine cl_X5_copyFrom (pc := 45) hx hb hml hown hV hw gx_w4 gx_w0 huq_3 (gw_369 hV) hl.1 (Nat.le_of_ble_eq_true rfl) (Nat.le_of_ble_eq_true rfl) (Nat.le_of_ble_eq_true rfl) dX6_commands_45 (fun H locs hw => ?_)
    refine lv_iconst (pc := 48) (v := 0) hx hb dX6_commands_48 (by decide) ?_
    refine lv_istore_n (pc := 49) (lv' := [(1, .int 0), (0, .ref (G.2.1 44))]) hx hb dX6_commands_49 rfl hl (by decide) rfl (fun ls hl => ?_)
    have L1 : ∀ (n : Nat) (K1 : Int32 → gx_F → gx_F → Option ((Int32 ⊕ Nat) × gx_F × gx_F)) (uv_4 : Int32) (uI_5 : gx_F) (uV_6 : gx_F) (H : Heap) (locs : List Loc) (ls : Array Slot), lv_has ls 2 [(1, .int uv_4), (0, .ref (G.2.1 44))] → gx_at G (uI_5, uV_6) M o d s.heap H locs → f_X6_commands_L1 K1 n uv_4 uI_5 uV_6 = some out → (∀ (uv_4 : Int32) (uI_5 : gx_F) (uV_6 : gx_F) (H : Heap) (locs : List Loc) (ls : Array Slot), lv_has ls 2 [(1, .int uv_4), (0, .ref (G.2.1 44))] → gx_at G (uI_5, uV_6) M o d s.heap H locs → K1 uv_4 uI_5 uV_6 = some out → W p l e ({ frames := 7, cells := 1, slots := 6, locals := 170 } : Room) s m ([.ref (G.2.1 44)] : List Value).toArray below meth c H locs 0 0 (vx_MQ below (gx_QXi G out.1 (out.2.1, out.2.2) M o d) (gx_XX G out.1 (out.2.1, out.2.2) M o d) ([.ref (G.2.1 44)] : List Value).toArray s 1 6 (gx_A G)) (F0 m 103 ls [])) → W p l e ({ frames := 7, cells := 1, slots := 6, locals := 170 } : Room) s m ([.ref (G.2.1 44)] : List Value).toArray below meth c H locs 0 0 (vx_MQ below (gx_QXi G out.1 (out.2.1, out.2.2) M o d) (gx_XX G out.1 (out.2.1, out.2.2) M o d) ([.ref (G.2.1 44)] : List Value).toArray s 1 6 (gx_A G)) (F0 m 50 ls []) := by
      intro n
      induction n with
      | zero =>
        intro K1 uv_4 uI_5 uV_6 H locs ls hl hw hF hK
        rw [f_X6_commands_L1] at hF
        cases hF
      | succ n ih1 =>
        intro K1 uv_4 uI_5 uV_6 H locs ls hl hw hF hK1
        rw [f_X6_commands_L1] at hF
        refine lv_iload_n (pc := 50) hx hb dX6_commands_50 rfl (lv_at hl 0 rfl) ?_
        refine lv_aload_n (pc := 51) hx hb dX6_commands_51 rfl (lv_at hl 1 rfl) ?_
        refine gg_X6_9 (pc := 52) hx hb hown hV hw (gw_242 hV) dX6_commands_52 ?_
        refine gg_X4_5 (pc := 55) hx hb hown hV hw (gw_218 hV) dX6_commands_55 ?_
        refine gx_icmp_ge (pc := 58) (tgt := 103) hx hb hF dX6_commands_58 (by decide) (fun hF => ?_) (fun hF => ?_)
        · exact hK1 _ _ _ _ _ _ (lv_sub hl [0, 1] rfl) hw hF
        refine lv_aload_n (pc := 61) hx hb dX6_commands_61 rfl (lv_at hl 1 rfl) ?_
        refine lv_iload_n (pc := 62) hx hb dX6_commands_62 rfl (lv_at hl 0 rfl) ?_
        obtain ⟨uq_7, huq_7, hF⟩ := Option.bind_eq_some_iff.mp hF
        refine cl_X6_carryOut (pc := 63) hx hb hml hown hV hw huq_7 (gw_898 hV) hl.1 (Nat.le_of_ble_eq_true rfl) (Nat.le_of_ble_eq_true rfl) (Nat.le_of_ble_eq_true rfl) dX6_commands_63 (fun H locs hw => ?_)
        refine lv_iconst (pc := 66) (v := (-1)) hx hb dX6_commands_66 (by decide) ?_
        refine gx_icmp_ne (pc := 67) (tgt := 97) hx hb hF dX6_commands_67 (by decide) (fun hF => ?_) (fun hF => ?_)
        · refine lv_iinc (pc := 97) (v := (uv_4 + 1)) (lv' := [(1, .int (uv_4 + 1)), (0, .ref (G.2.1 44))]) hx hb dX6_commands_97 hl (k := 0) rfl rfl (by decide) rfl (fun ls hl => ?_)
          refine lv_goto (pc := 100) (tgt := 50) hx hb dX6_commands_100 (by decide) ?_
          exact ih1 _ _ _ _ _ _ _ (lv_sub hl [0, 1] rfl) hw hF hK1
        refine lv_aload_n (pc := 70) hx hb dX6_commands_70 rfl (lv_at hl 1 rfl) ?_
        refine lv_iload_n (pc := 71) hx hb dX6_commands_71 rfl (lv_at hl 0 rfl) ?_
        refine gp_X6_8 (pc := 72) hx hb hown hV hw (gw_241 hV) dX6_commands_72 (fun H locs hw => ?_)
        refine lv_aload_n (pc := 75) hx hb dX6_commands_75 rfl (lv_at hl 1 rfl) ?_
        refine gg_X6_0 (pc := 76) hx hb hown hV hw (gw_233 hV) dX6_commands_76 ?_
        refine lv_aload_n (pc := 79) hx hb dX6_commands_79 rfl (lv_at hl 1 rfl) ?_
        refine gg_X6_1 (pc := 80) hx hb hown hV hw (gw_234 hV) dX6_commands_80 ?_
        obtain ⟨uq_8, huq_8, hF⟩ := Option.bind_eq_some_iff.mp hF
        refine cl_X5_copyFrom (pc := 83) hx hb hml hown hV hw gx_w0 gx_w4 huq_8 (gw_369 hV) hl.1 (Nat.le_of_ble_eq_true rfl) (Nat.le_of_ble_eq_true rfl) (Nat.le_of_ble_eq_true rfl) dX6_commands_83 (fun H locs hw => ?_)
        cases hF
        exact gx_throwSW (pc := 86) (i := 0) rfl (by decide +kernel) gx_kt0 hx hb hl9 hown hlocks htab hV hZ hw (hl.1.trans hml.symm) (List.mem_of_getElem? (i := 20) rfl) (by decide) (by decide) (by decide) (by decide) dX6_commands_86 dX6_commands_89 dX6_commands_90 dX6_commands_93 dX6_commands_96
    refine L1 1000 _ _ _ _ _ _ _ hl hw hF (fun uv_9 uI_10 uV_11 H locs ls hl hw hF => ?_)
    refine lv_aload_n (pc := 103) hx hb dX6_commands_103 rfl (lv_at hl 1 rfl) ?_
    refine gg_X6_4 (pc := 104) hx hb hown hV hw (gw_237 hV) dX6_commands_104 ?_
    refine lv_aload_n (pc := 107) hx hb dX6_commands_107 rfl (lv_at hl 1 rfl) ?_
    refine gg_X6_1 (pc := 108) hx hb hown hV hw (gw_234 hV) dX6_commands_108 ?_
    obtain ⟨uq_12, huq_12, hF⟩ := Option.bind_eq_some_iff.mp hF
    refine cl_X2_push (pc := 111) hx hb hml hown hV hw gx_w4 huq_12 (gw_420 hV) hl.1 (Nat.le_of_ble_eq_true rfl) (Nat.le_of_ble_eq_true rfl) (Nat.le_of_ble_eq_true rfl) dX6_commands_111 (fun H locs hw => ?_)
    refine lv_aload_n (pc := 114) hx hb dX6_commands_114 rfl (lv_at hl 1 rfl) ?_
    refine gg_X6_9 (pc := 115) hx hb hown hV hw (gw_242 hV) dX6_commands_115 ?_
    refine gg_X4_5 (pc := 118) hx hb hown hV hw (gw_218 hV) dX6_commands_118 ?_
    cases hF
    exact gx_iretX hx hb hr hlocks hw dX6_commands_121
  cases hF
  exact gx_throwSW (pc := 26) (i := 2) rfl (by decide +kernel) gx_kt2 hx hb hl9 hown hlocks htab hV hZ hw (hl.1.trans hml.symm) (List.mem_of_getElem? (i := 19) rfl) (by decide) (by decide) (by decide) (by decide) dX6_commands_26 dX6_commands_29 dX6_commands_30 dX6_commands_33 dX6_commands_36
set_option maxRecDepth 100000 in
theorem cx_X6_commands {l : Launch} {G : gx_G} {M : gx_S} {o : Int64} {d : UInt64} {I V : gx_F} {p : Program} {e : Env} {R : Room} {s : State} {m : MethodId} {args : Array Value} {below : List Frame} {meth : Method} {c : Code} {H : Heap} {locs : List Loc} {Q : State → Prop} {cc : ByteArray} {pc nL index : Nat} {ls : Array Slot} {rest : List Value} {own : String} {out : ((Int32 ⊕ Nat) × gx_F × gx_F)} (hl9 : l.stackTraces = false) (hx : p.tables.exec = Jvm.exec) (hb : c.code = cc) (hml : c.maxLocals = nL) (hown : s.vm.findClass own = some m.cls) (hV : gx_V G s) (hZ : gx_Z G s s.heap) (hw : gx_at G (I, V) M o d s.heap H locs) (hF : f_X6_commands I V = some out) (hlink : (Cond.methodLink own index yX6_commands).before args s = true) (hsz : ls.size = nL) (hfr : 8 ≤ R.frames) (hlo : 191 ≤ R.locals) (hrest : (rest.map fun v => v.category).sum ≤ 8) (hc : 1 ≤ R.cells) (hs : 6 ≤ R.slots) (hdg : decode cc pc = .ok (.invokevirtual index, 3))
    (kx : ∀ (i : Nat) (ce : Cell) (q8 : Addr) (H1 : Heap) (locs1 : List Loc), out.1 = .inr i → gx_at G (out.2.1, out.2.2) M o d s.heap H1 locs1 → H1[q8]? = some ce → ce.vm = .none → s.vm.findClass (gx_en i) = some ce.cls → vx_W p l e R s m args below meth c H1 locs1 1 6 Q (F0 m pc ls rest) q8)
    (kk : ∀ (q9 : Int32) (H1 : Heap) (locs1 : List Loc), out.1 = .inl q9 → gx_at G (out.2.1, out.2.2) M o d s.heap H1 locs1 → W p l e R s m args below meth c H1 locs1 1 6 Q (F0 m (pc + 3) ls (.int q9 :: rest))) : W p l e R s m args below meth c H locs 0 0 Q (F0 m pc ls (.ref (G.2.1 44) :: rest)) := by
  exact vx_calli (vx_runV (C := RX6) (As := []) (rest := rest) ⟨hx, hb, hml, hown, (fun _ h => nomatch h : ∀ w ∈ ([] : List Cond), w.before args s = true)⟩ (k_X6_commands hl9 hF) ⟨gx_callB (n := 0) rfl rfl hlink (gw_49 hV) (gw_852 hV) (by decide +kernel) ⟨hfr, hlo⟩, gw_850 hV, gw_851 hV⟩ (gx_recvX (k := 44) (ci := 8) (T := TX6) hV hZ hw (by decide) rfl rfl) rfl rfl hsz rfl (lv_room hrest) hdg ⟨hc, hs⟩) hw.2.1 (fun _ _ h => h) (fun _ h => h) (fun _ _ h => h) (fun E ce q8 i t H1 locs1 ht _ hp hB _ _ hS h1 h2 h3 => by obtain ⟨rfl, hB⟩ := hB; exact kx i ce q8 H1 locs1 hp (gx_back hw ht hB hS) h1 h2 h3) (fun r _ t H1 locs1 ht _ hp hB _ _ hS => kk r H1 locs1 hp (gx_back hw ht hB hS))
set_option maxHeartbeats 4000000 in
set_option maxRecDepth 100000 in
theorem k_X6_reason {l : Launch} {G : gx_G} {M : gx_S} {o : Int64} {d : UInt64} {I V : gx_F} {x1 : Int32} {out : (Int32 ⊕ Nat)} (hl9 : l.stackTraces = false) (hF : f_X6_reason x1 I V = some out) : gx_KX l yX6_reason cX6_reason 2 (some .int) { frames := 6, cells := 1, slots := 6, locals := 82 } [.ref (G.2.1 44), .int x1] G (I, V) M o d (gx_QXi G out (I, V) M o d) out (I, V) := by
  refine gx_beginX (by decide +kernel) (Nat.le_of_ble_eq_true rfl) ?_
  intro p e s m below meth c hx hb hr hml hown hlocks htab hV hZ hw ls hl
  have hown : s.vm.findClass RX6 = some m.cls := hown
  have hl : lv_has ls 2 [(0, .ref (G.2.1 44)), (1, .int x1)] := hl
  unfold f_X6_reason at hF
  refine lv_iload_n (pc := 0) hx hb dX6_reason_0 rfl (lv_at hl 1 rfl) ?_
  refine gx_if_lt (pc := 1) (tgt := 9) hx hb hF dX6_reason_1 (by decide) (fun hF => ?_) (fun hF => ?_)
  · cases hF
    exact gx_throwSW (pc := 9) (i := 2) rfl (by decide +kernel) gx_kt2 hx hb hl9 hown hlocks htab hV hZ hw (hl.1.trans hml.symm) (List.mem_of_getElem? (i := 21) rfl) (by decide) (by decide) (by decide) (by decide) dX6_reason_9 dX6_reason_12 dX6_reason_13 dX6_reason_16 dX6_reason_19
  refine lv_iload_n (pc := 4) hx hb dX6_reason_4 rfl (lv_at hl 1 rfl) ?_
  refine lv_iconst (pc := 5) (v := 2) hx hb dX6_reason_5 (by decide) ?_
  refine gx_icmp_le (pc := 6) (tgt := 20) hx hb hF dX6_reason_6 (by decide) (fun hF => ?_) (fun hF => ?_)
  · refine lv_aload_n (pc := 20) hx hb dX6_reason_20 rfl (lv_at hl 0 rfl) ?_
    refine gg_X6_7 (pc := 21) hx hb hown hV hw (gw_240 hV) dX6_reason_21 ?_
    refine gg_X3_2 (pc := 24) hx hb hown hV hw (gw_193 hV) dX6_reason_24 ?_
    refine gx_if_ne (pc := 27) (tgt := 41) hx hb hF dX6_reason_27 (by decide) (fun hF => ?_) (fun hF => ?_)
    · refine lv_iload_n (pc := 41) hx hb dX6_reason_41 rfl (lv_at hl 1 rfl) ?_
      refine gx_if_ne (pc := 42) (tgt := 53) hx hb hF dX6_reason_42 (by decide) (fun hF => ?_) (fun hF => ?_)
      · refine lv_iload_n (pc := 53) hx hb dX6_reason_53 rfl (lv_at hl 1 rfl) ?_
        refine lv_iconst (pc := 54) (v := 1) hx hb dX6_reason_54 (by decide) ?_
        refine gx_icmp_ne (pc := 55) (tgt := 68) hx hb hF dX6_reason_55 (by decide) (fun hF => ?_) (fun hF => ?_)
        · refine lv_aload_n (pc := 68) hx hb dX6_reason_68 rfl (lv_at hl 0 rfl) ?_
          refine gg_X6_8 (pc := 69) hx hb hown hV hw (gw_241 hV) dX6_reason_69 ?_
          cases hF
          exact gx_iretX hx hb hr hlocks hw dX6_reason_72
        refine lv_aload_n (pc := 58) hx hb dX6_reason_58 rfl (lv_at hl 0 rfl) ?_
        refine gg_X6_7 (pc := 59) hx hb hown hV hw (gw_240 hV) dX6_reason_59 ?_
        refine gg_X3_3 (pc := 62) hx hb hown hV hw (gw_195 hV) dX6_reason_62 ?_
        refine lv_goto (pc := 65) (tgt := 72) hx hb dX6_reason_65 (by decide) ?_
        cases hF
        exact gx_iretX hx hb hr hlocks hw dX6_reason_72
      refine lv_aload_n (pc := 45) hx hb dX6_reason_45 rfl (lv_at hl 0 rfl) ?_
      refine gg_X6_7 (pc := 46) hx hb hown hV hw (gw_240 hV) dX6_reason_46 ?_
      refine gg_X3_2 (pc := 49) hx hb hown hV hw (gw_193 hV) dX6_reason_49 ?_
      cases hF
      exact gx_iretX hx hb hr hlocks hw dX6_reason_52
    cases hF
    exact gx_throwNSW (pc := 30) hx hb hl9 hown hlocks htab hV hZ hw (hl.1.trans hml.symm) (List.mem_of_getElem? (i := 22) rfl) (by decide) (by decide) (by decide) (by decide) dX6_reason_30 dX6_reason_33 dX6_reason_34 dX6_reason_37 dX6_reason_40
  cases hF
  exact gx_throwSW (pc := 9) (i := 2) rfl (by decide +kernel) gx_kt2 hx hb hl9 hown hlocks htab hV hZ hw (hl.1.trans hml.symm) (List.mem_of_getElem? (i := 21) rfl) (by decide) (by decide) (by decide) (by decide) dX6_reason_9 dX6_reason_12 dX6_reason_13 dX6_reason_16 dX6_reason_19
set_option maxRecDepth 100000 in
theorem cx_X6_reason {l : Launch} {G : gx_G} {M : gx_S} {o : Int64} {d : UInt64} {I V : gx_F} {p : Program} {e : Env} {R : Room} {s : State} {m : MethodId} {args : Array Value} {below : List Frame} {meth : Method} {c : Code} {H : Heap} {locs : List Loc} {Q : State → Prop} {cc : ByteArray} {pc nL index : Nat} {ls : Array Slot} {rest : List Value} {own : String} {x1 : Int32} {out : (Int32 ⊕ Nat)} (hl9 : l.stackTraces = false) (hx : p.tables.exec = Jvm.exec) (hb : c.code = cc) (hml : c.maxLocals = nL) (hown : s.vm.findClass own = some m.cls) (hV : gx_V G s) (hZ : gx_Z G s s.heap) (hw : gx_at G (I, V) M o d s.heap H locs) (hF : f_X6_reason x1 I V = some out) (hlink : (Cond.methodLink own index yX6_reason).before args s = true) (hsz : ls.size = nL) (hfr : 7 ≤ R.frames) (hlo : 103 ≤ R.locals) (hrest : (rest.map fun v => v.category).sum ≤ 8) (hc : 1 ≤ R.cells) (hs : 6 ≤ R.slots) (hdg : decode cc pc = .ok (.invokevirtual index, 3))
    (kx : ∀ (i : Nat) (ce : Cell) (q8 : Addr) (H1 : Heap) (locs1 : List Loc), out = .inr i → gx_at G (I, V) M o d s.heap H1 locs1 → H1[q8]? = some ce → ce.vm = .none → s.vm.findClass (gx_en i) = some ce.cls → vx_W p l e R s m args below meth c H1 locs1 1 6 Q (F0 m pc ls rest) q8)
    (kk : ∀ (q9 : Int32) (H1 : Heap) (locs1 : List Loc), out = .inl q9 → gx_at G (I, V) M o d s.heap H1 locs1 → W p l e R s m args below meth c H1 locs1 1 6 Q (F0 m (pc + 3) ls (.int q9 :: rest))) : W p l e R s m args below meth c H locs 0 0 Q (F0 m pc ls (.int x1 :: .ref (G.2.1 44) :: rest)) := by
  exact vx_calli (vx_runV (C := RX6) (As := [.int x1]) (rest := rest) ⟨hx, hb, hml, hown, (fun _ h => nomatch h : ∀ w ∈ ([] : List Cond), w.before args s = true)⟩ (k_X6_reason hl9 hF) ⟨gx_callB (n := 1) rfl rfl hlink (gw_49 hV) (gw_914 hV) (by decide +kernel) ⟨hfr, hlo⟩, gw_912 hV, gw_913 hV⟩ (gx_recvX (k := 44) (ci := 8) (T := TX6) hV hZ hw (by decide) rfl rfl) rfl rfl hsz rfl (lv_room hrest) hdg ⟨hc, hs⟩) hw.2.1 (fun _ _ h => h) (fun _ h => h) (fun _ _ h => h) (fun E ce q8 i t H1 locs1 ht _ hp hB _ _ hS h1 h2 h3 => by obtain ⟨rfl, hB⟩ := hB; exact kx i ce q8 H1 locs1 hp (gx_back hw ht hB hS) h1 h2 h3) (fun r _ t H1 locs1 ht _ hp hB _ _ hS => kk r H1 locs1 hp (gx_back hw ht hB hS))
set_option maxHeartbeats 4000000 in
set_option maxRecDepth 100000 in
theorem k_X6_line {l : Launch} {G : gx_G} {M : gx_S} {o : Int64} {d : UInt64} {I V : gx_F} {x1 : Int32} {out : ((Int32 ⊕ Nat) × gx_F × gx_F)} (hl9 : l.stackTraces = false) (hF : f_X6_line x1 I V = some out) : gx_KX l yX6_line cX6_line 3 (some .int) { frames := 6, cells := 1, slots := 6, locals := 82 } [.ref (G.2.1 44), .int x1] G (I, V) M o d (gx_QXi G out.1 (out.2.1, out.2.2) M o d) out.1 (out.2.1, out.2.2) := by
  refine gx_beginX (by decide +kernel) (Nat.le_of_ble_eq_true rfl) ?_
  intro p e s m below meth c hx hb hr hml hown hlocks htab hV hZ hw ls hl
  have hown : s.vm.findClass RX6 = some m.cls := hown
  have hl : lv_has ls 3 [(0, .ref (G.2.1 44)), (1, .int x1)] := hl
  unfold f_X6_line at hF
  refine lv_iload_n (pc := 0) hx hb dX6_line_0 rfl (lv_at hl 1 rfl) ?_
  refine gx_if_lt (pc := 1) (tgt := 10) hx hb hF dX6_line_1 (by decide) (fun hF => ?_) (fun hF => ?_)
  · cases hF
    exact gx_throwSW (pc := 10) (i := 1) rfl (by decide +kernel) gx_kt1 hx hb hl9 hown hlocks htab hV hZ hw (hl.1.trans hml.symm) (List.mem_of_getElem? (i := 23) rfl) (by decide) (by decide) (by decide) (by decide) dX6_line_10 dX6_line_13 dX6_line_14 dX6_line_17 dX6_line_20
  refine lv_iload_n (pc := 4) hx hb dX6_line_4 rfl (lv_at hl 1 rfl) ?_
  refine lv_bipush (pc := 5) (v := 6) hx hb dX6_line_5 (by decide) ?_
  refine gx_icmp_lt (pc := 7) (tgt := 21) hx hb hF dX6_line_7 (by decide) (fun hF => ?_) (fun hF => ?_)
  · refine lv_aload_n (pc := 21) hx hb dX6_line_21 rfl (lv_at hl 0 rfl) ?_
    refine lv_iconst (pc := 22) (v := 0) hx hb dX6_line_22 (by decide) ?_
    refine gp_X6_12 (pc := 23) hx hb hown hV hw (gw_245 hV) dX6_line_23 (fun H locs hw => ?_)
    refine lv_iconst (pc := 26) (v := 0) hx hb dX6_line_26 (by decide) ?_
    refine lv_istore_n (pc := 27) (lv' := [(2, .int 0), (0, .ref (G.2.1 44)), (1, .int x1)]) hx hb dX6_line_27 rfl hl (by decide) rfl (fun ls hl => ?_)
    have L1 : ∀ (n : Nat) (K1 : Int32 → gx_F → gx_F → Option ((Int32 ⊕ Nat) × gx_F × gx_F)) (uv_1 : Int32) (uI_2 : gx_F) (uV_3 : gx_F) (H : Heap) (locs : List Loc) (ls : Array Slot), lv_has ls 3 [(2, .int uv_1), (0, .ref (G.2.1 44)), (1, .int x1)] → gx_at G (uI_2, uV_3) M o d s.heap H locs → f_X6_line_L1 x1 K1 n uv_1 uI_2 uV_3 = some out → (∀ (uv_1 : Int32) (uI_2 : gx_F) (uV_3 : gx_F) (H : Heap) (locs : List Loc) (ls : Array Slot), lv_has ls 3 [(2, .int uv_1), (0, .ref (G.2.1 44)), (1, .int x1)] → gx_at G (uI_2, uV_3) M o d s.heap H locs → K1 uv_1 uI_2 uV_3 = some out → W p l e ({ frames := 6, cells := 1, slots := 6, locals := 82 } : Room) s m ([.ref (G.2.1 44), .int x1] : List Value).toArray below meth c H locs 0 0 (vx_MQ below (gx_QXi G out.1 (out.2.1, out.2.2) M o d) (gx_XX G out.1 (out.2.1, out.2.2) M o d) ([.ref (G.2.1 44), .int x1] : List Value).toArray s 1 6 (gx_A G)) (F0 m 57 ls [])) → W p l e ({ frames := 6, cells := 1, slots := 6, locals := 82 } : Room) s m ([.ref (G.2.1 44), .int x1] : List Value).toArray below meth c H locs 0 0 (vx_MQ below (gx_QXi G out.1 (out.2.1, out.2.2) M o d) (gx_XX G out.1 (out.2.1, out.2.2) M o d) ([.ref (G.2.1 44), .int x1] : List Value).toArray s 1 6 (gx_A G)) (F0 m 28 ls []) := by
      intro n
      induction n with
      | zero =>
        intro K1 uv_1 uI_2 uV_3 H locs ls hl hw hF hK
        rw [f_X6_line_L1] at hF
        cases hF
      | succ n ih1 =>
        intro K1 uv_1 uI_2 uV_3 H locs ls hl hw hF hK1
        rw [f_X6_line_L1] at hF
        refine lv_iload_n (pc := 28) hx hb dX6_line_28 rfl (lv_at hl 0 rfl) ?_
        refine lv_bipush (pc := 29) (v := 7) hx hb dX6_line_29 (by decide) ?_
        refine gx_icmp_ge (pc := 31) (tgt := 57) hx hb hF dX6_line_31 (by decide) (fun hF => ?_) (fun hF => ?_)
        · exact hK1 _ _ _ _ _ _ (lv_sub hl [0, 1, 2] rfl) hw hF
        refine lv_aload_n (pc := 34) hx hb dX6_line_34 rfl (lv_at hl 1 rfl) ?_
        refine lv_aload_n (pc := 35) hx hb dX6_line_35 rfl (lv_at hl 1 rfl) ?_
        refine gg_X6_0 (pc := 36) hx hb hown hV hw (gw_233 hV) dX6_line_36 ?_
        refine lv_iload_n (pc := 39) hx hb dX6_line_39 rfl (lv_at hl 2 rfl) ?_
        refine lv_bipush (pc := 40) (v := 7) hx hb dX6_line_40 (by decide) ?_
        refine lv_imul (pc := 42) hx hb dX6_line_42 ?_
        refine lv_iload_n (pc := 43) hx hb dX6_line_43 rfl (lv_at hl 0 rfl) ?_
        refine lv_iadd (pc := 44) hx hb dX6_line_44 ?_
        obtain ⟨uq_4, huq_4, hF⟩ := Option.bind_eq_some_iff.mp hF
        refine cl_X5_brickOn (pc := 45) hx hb hml hown hV hw gx_w0 huq_4 (gw_679 hV) hl.1 (Nat.le_of_ble_eq_true rfl) (Nat.le_of_ble_eq_true rfl) (Nat.le_of_ble_eq_true rfl) dX6_line_45 (fun H locs hw => ?_)
        obtain ⟨uq_5, huq_5, hF⟩ := Option.bind_eq_some_iff.mp hF
        refine cl_X6_writePlace (pc := 48) hx hb hml hown hV hw huq_5 (gw_925 hV) hl.1 (Nat.le_of_ble_eq_true rfl) (Nat.le_of_ble_eq_true rfl) (Nat.le_of_ble_eq_true rfl) dX6_line_48 (fun H locs hw => ?_)
        refine lv_iinc (pc := 51) (v := (uv_1 + 1)) (lv' := [(2, .int (uv_1 + 1)), (0, .ref (G.2.1 44)), (1, .int x1)]) hx hb dX6_line_51 hl (k := 0) rfl rfl (by decide) rfl (fun ls hl => ?_)
        refine lv_goto (pc := 54) (tgt := 28) hx hb dX6_line_54 (by decide) ?_
        exact ih1 _ _ _ _ _ _ _ (lv_sub hl [0, 1, 2] rfl) hw hF hK1
    refine L1 1000 _ _ _ _ _ _ _ hl hw hF (fun uv_6 uI_7 uV_8 H locs ls hl hw hF => ?_)
    refine lv_aload_n (pc := 57) hx hb dX6_line_57 rfl (lv_at hl 1 rfl) ?_
    refine gg_X6_12 (pc := 58) hx hb hown hV hw (gw_245 hV) dX6_line_58 ?_
    cases hF
    exact gx_iretX hx hb hr hlocks hw dX6_line_61
  cases hF
  exact gx_throwSW (pc := 10) (i := 1) rfl (by decide +kernel) gx_kt1 hx hb hl9 hown hlocks htab hV hZ hw (hl.1.trans hml.symm) (List.mem_of_getElem? (i := 23) rfl) (by decide) (by decide) (by decide) (by decide) dX6_line_10 dX6_line_13 dX6_line_14 dX6_line_17 dX6_line_20
set_option maxRecDepth 100000 in
theorem cx_X6_line {l : Launch} {G : gx_G} {M : gx_S} {o : Int64} {d : UInt64} {I V : gx_F} {p : Program} {e : Env} {R : Room} {s : State} {m : MethodId} {args : Array Value} {below : List Frame} {meth : Method} {c : Code} {H : Heap} {locs : List Loc} {Q : State → Prop} {cc : ByteArray} {pc nL index : Nat} {ls : Array Slot} {rest : List Value} {own : String} {x1 : Int32} {out : ((Int32 ⊕ Nat) × gx_F × gx_F)} (hl9 : l.stackTraces = false) (hx : p.tables.exec = Jvm.exec) (hb : c.code = cc) (hml : c.maxLocals = nL) (hown : s.vm.findClass own = some m.cls) (hV : gx_V G s) (hZ : gx_Z G s s.heap) (hw : gx_at G (I, V) M o d s.heap H locs) (hF : f_X6_line x1 I V = some out) (hlink : (Cond.methodLink own index yX6_line).before args s = true) (hsz : ls.size = nL) (hfr : 7 ≤ R.frames) (hlo : 104 ≤ R.locals) (hrest : (rest.map fun v => v.category).sum ≤ 8) (hc : 1 ≤ R.cells) (hs : 6 ≤ R.slots) (hdg : decode cc pc = .ok (.invokevirtual index, 3))
    (kx : ∀ (i : Nat) (ce : Cell) (q8 : Addr) (H1 : Heap) (locs1 : List Loc), out.1 = .inr i → gx_at G (out.2.1, out.2.2) M o d s.heap H1 locs1 → H1[q8]? = some ce → ce.vm = .none → s.vm.findClass (gx_en i) = some ce.cls → vx_W p l e R s m args below meth c H1 locs1 1 6 Q (F0 m pc ls rest) q8)
    (kk : ∀ (q9 : Int32) (H1 : Heap) (locs1 : List Loc), out.1 = .inl q9 → gx_at G (out.2.1, out.2.2) M o d s.heap H1 locs1 → W p l e R s m args below meth c H1 locs1 1 6 Q (F0 m (pc + 3) ls (.int q9 :: rest))) : W p l e R s m args below meth c H locs 0 0 Q (F0 m pc ls (.int x1 :: .ref (G.2.1 44) :: rest)) := by
  exact vx_calli (vx_runV (C := RX6) (As := [.int x1]) (rest := rest) ⟨hx, hb, hml, hown, (fun _ h => nomatch h : ∀ w ∈ ([] : List Cond), w.before args s = true)⟩ (k_X6_line hl9 hF) ⟨gx_callB (n := 1) rfl rfl hlink (gw_49 hV) (gw_923 hV) (by decide +kernel) ⟨hfr, hlo⟩, gw_921 hV, gw_922 hV⟩ (gx_recvX (k := 44) (ci := 8) (T := TX6) hV hZ hw (by decide) rfl rfl) rfl rfl hsz rfl (lv_room hrest) hdg ⟨hc, hs⟩) hw.2.1 (fun _ _ h => h) (fun _ h => h) (fun _ _ h => h) (fun E ce q8 i t H1 locs1 ht _ hp hB _ _ hS h1 h2 h3 => by obtain ⟨rfl, hB⟩ := hB; exact kx i ce q8 H1 locs1 hp (gx_back hw ht hB hS) h1 h2 h3) (fun r _ t H1 locs1 ht _ hp hB _ _ hS => kk r H1 locs1 hp (gx_back hw ht hB hS))
set_option maxHeartbeats 4000000 in
set_option maxRecDepth 100000 in
theorem k_X6_character {l : Launch} {G : gx_G} {M : gx_S} {o : Int64} {d : UInt64} {I V : gx_F} {x1 : Int32} {out : (Int32 ⊕ Nat)} (hl9 : l.stackTraces = false) (hF : f_X6_character x1 I V = some out) : gx_KX l yX6_character cX6_character 2 (some .char) { frames := 6, cells := 1, slots := 6, locals := 82 } [.ref (G.2.1 44), .int x1] G (I, V) M o d (gx_QXi G out (I, V) M o d) out (I, V) := by
  refine gx_beginX (by decide +kernel) (Nat.le_of_ble_eq_true rfl) ?_
  intro p e s m below meth c hx hb hr hml hown hlocks htab hV hZ hw ls hl
  have hown : s.vm.findClass RX6 = some m.cls := hown
  have hl : lv_has ls 2 [(0, .ref (G.2.1 44)), (1, .int x1)] := hl
  unfold f_X6_character at hF
  refine lv_iload_n (pc := 0) hx hb dX6_character_0 rfl (lv_at hl 1 rfl) ?_
  refine gx_if_lt (pc := 1) (tgt := 12) hx hb hF dX6_character_1 (by decide) (fun hF => ?_) (fun hF => ?_)
  · cases hF
    exact gx_throwSW (pc := 12) (i := 1) rfl (by decide +kernel) gx_kt1 hx hb hl9 hown hlocks htab hV hZ hw (hl.1.trans hml.symm) (List.mem_of_getElem? (i := 24) rfl) (by decide) (by decide) (by decide) (by decide) dX6_character_12 dX6_character_15 dX6_character_16 dX6_character_19 dX6_character_22
  refine lv_iload_n (pc := 4) hx hb dX6_character_4 rfl (lv_at hl 1 rfl) ?_
  refine lv_aload_n (pc := 5) hx hb dX6_character_5 rfl (lv_at hl 0 rfl) ?_
  refine gg_X6_12 (pc := 6) hx hb hown hV hw (gw_245 hV) dX6_character_6 ?_
  refine gx_icmp_lt (pc := 9) (tgt := 23) hx hb hF dX6_character_9 (by decide) (fun hF => ?_) (fun hF => ?_)
  · refine lv_aload_n (pc := 23) hx hb dX6_character_23 rfl (lv_at hl 0 rfl) ?_
    refine gg_X6_11 (pc := 24) hx hb hown hV hw (gw_244 hV) dX6_character_24 ?_
    refine lv_iload_n (pc := 27) hx hb dX6_character_27 rfl (lv_at hl 1 rfl) ?_
    refine ga_45_ld (pc := 28) hx hb hV hw hF dX6_character_28 (fun _ hF => ?_)
    cases hF
    exact gx_cretX hx hb hr (gx_narc _) hlocks hw dX6_character_29
  cases hF
  exact gx_throwSW (pc := 12) (i := 1) rfl (by decide +kernel) gx_kt1 hx hb hl9 hown hlocks htab hV hZ hw (hl.1.trans hml.symm) (List.mem_of_getElem? (i := 24) rfl) (by decide) (by decide) (by decide) (by decide) dX6_character_12 dX6_character_15 dX6_character_16 dX6_character_19 dX6_character_22
set_option maxRecDepth 100000 in
theorem cx_X6_character {l : Launch} {G : gx_G} {M : gx_S} {o : Int64} {d : UInt64} {I V : gx_F} {p : Program} {e : Env} {R : Room} {s : State} {m : MethodId} {args : Array Value} {below : List Frame} {meth : Method} {c : Code} {H : Heap} {locs : List Loc} {Q : State → Prop} {cc : ByteArray} {pc nL index : Nat} {ls : Array Slot} {rest : List Value} {own : String} {x1 : Int32} {out : (Int32 ⊕ Nat)} (hl9 : l.stackTraces = false) (hx : p.tables.exec = Jvm.exec) (hb : c.code = cc) (hml : c.maxLocals = nL) (hown : s.vm.findClass own = some m.cls) (hV : gx_V G s) (hZ : gx_Z G s s.heap) (hw : gx_at G (I, V) M o d s.heap H locs) (hF : f_X6_character x1 I V = some out) (hlink : (Cond.methodLink own index yX6_character).before args s = true) (hsz : ls.size = nL) (hfr : 7 ≤ R.frames) (hlo : 103 ≤ R.locals) (hrest : (rest.map fun v => v.category).sum ≤ 8) (hc : 1 ≤ R.cells) (hs : 6 ≤ R.slots) (hdg : decode cc pc = .ok (.invokevirtual index, 3))
    (kx : ∀ (i : Nat) (ce : Cell) (q8 : Addr) (H1 : Heap) (locs1 : List Loc), out = .inr i → gx_at G (I, V) M o d s.heap H1 locs1 → H1[q8]? = some ce → ce.vm = .none → s.vm.findClass (gx_en i) = some ce.cls → vx_W p l e R s m args below meth c H1 locs1 1 6 Q (F0 m pc ls rest) q8)
    (kk : ∀ (q9 : Int32) (H1 : Heap) (locs1 : List Loc), out = .inl q9 → gx_at G (I, V) M o d s.heap H1 locs1 → W p l e R s m args below meth c H1 locs1 1 6 Q (F0 m (pc + 3) ls (.int q9 :: rest))) : W p l e R s m args below meth c H locs 0 0 Q (F0 m pc ls (.int x1 :: .ref (G.2.1 44) :: rest)) := by
  exact vx_calli (vx_runV (C := RX6) (As := [.int x1]) (rest := rest) ⟨hx, hb, hml, hown, (fun _ h => nomatch h : ∀ w ∈ ([] : List Cond), w.before args s = true)⟩ (k_X6_character hl9 hF) ⟨gx_callB (n := 1) rfl rfl hlink (gw_49 hV) (gw_939 hV) (by decide +kernel) ⟨hfr, hlo⟩, gw_937 hV, gw_938 hV⟩ (gx_recvX (k := 44) (ci := 8) (T := TX6) hV hZ hw (by decide) rfl rfl) rfl rfl hsz rfl (lv_room hrest) hdg ⟨hc, hs⟩) hw.2.1 (fun _ _ h => h) (fun _ h => h) (fun _ _ h => h) (fun E ce q8 i t H1 locs1 ht _ hp hB _ _ hS h1 h2 h3 => by obtain ⟨rfl, hB⟩ := hB; exact kx i ce q8 H1 locs1 hp (gx_back hw ht hB hS) h1 h2 h3) (fun r _ t H1 locs1 ht _ hp hB _ _ hS => kk r H1 locs1 hp (gx_back hw ht hB hS))
set_option maxHeartbeats 4000000 in
set_option maxRecDepth 100000 in
theorem k_X6_meanHold {l : Launch} {G : gx_G} {M : gx_S} {o : Int64} {d : UInt64} {I V : gx_F} {out : (UInt64 ⊕ Nat)} (hl9 : l.stackTraces = false) (hF : f_X6_meanHold I V = some out) : gx_KX l yX6_meanHold cX6_meanHold 2 (some .double) { frames := 6, cells := 1, slots := 6, locals := 92 } [.ref (G.2.1 44)] G (I, V) M o d (gx_QXd G out (I, V) M o d) out (I, V) := by
  refine gx_beginX (by decide +kernel) (Nat.le_of_ble_eq_true rfl) ?_
  intro p e s m below meth c hx hb hr hml hown hlocks htab hV hZ hw ls hl
  have hown : s.vm.findClass RX6 = some m.cls := hown
  have hl : lv_has ls 2 [(0, .ref (G.2.1 44))] := hl
  unfold f_X6_meanHold at hF
  refine lv_aload_n (pc := 0) hx hb dX6_meanHold_0 rfl (lv_at hl 0 rfl) ?_
  refine gg_X6_0 (pc := 1) hx hb hown hV hw (gw_233 hV) dX6_meanHold_1 ?_
  obtain ⟨uq_1, huq_1, hF⟩ := Option.bind_eq_some_iff.mp hF
  refine cl_X5_brickCount (pc := 4) hx hb hml hown hV hw gx_w0 huq_1 (gw_277 hV) hl.1 (Nat.le_of_ble_eq_true rfl) (Nat.le_of_ble_eq_true rfl) (Nat.le_of_ble_eq_true rfl) dX6_meanHold_4 (fun H locs hw => ?_)
  refine lv_istore_n (pc := 7) (lv' := [(1, .int uq_1), (0, .ref (G.2.1 44))]) hx hb dX6_meanHold_7 rfl hl (by decide) rfl (fun ls hl => ?_)
  refine lv_iload_n (pc := 8) hx hb dX6_meanHold_8 rfl (lv_at hl 0 rfl) ?_
  refine gx_if_ne (pc := 9) (tgt := 23) hx hb hF dX6_meanHold_9 (by decide) (fun hF => ?_) (fun hF => ?_)
  · refine lv_aload_n (pc := 23) hx hb dX6_meanHold_23 rfl (lv_at hl 1 rfl) ?_
    refine gg_X6_0 (pc := 24) hx hb hown hV hw (gw_233 hV) dX6_meanHold_24 ?_
    refine lv_iconst (pc := 27) (v := (-1)) hx hb dX6_meanHold_27 (by decide) ?_
    obtain ⟨uq_2, huq_2, hF⟩ := Option.bind_eq_some_iff.mp hF
    refine cl_X5_allHolds (pc := 28) hx hb hml hown hV hw gx_w0 huq_2 (gw_724 hV) hl.1 (Nat.le_of_ble_eq_true rfl) (Nat.le_of_ble_eq_true rfl) (Nat.le_of_ble_eq_true rfl) dX6_meanHold_28 (fun H locs hw => ?_)
    refine lv_i2d (pc := 31) hx hb dX6_meanHold_31 ?_
    refine lv_iload_n (pc := 32) hx hb dX6_meanHold_32 rfl (lv_at hl 0 rfl) ?_
    refine lv_i2d (pc := 33) hx hb dX6_meanHold_33 ?_
    refine gx_ddiv (pc := 34) hx hb hF dX6_meanHold_34 (fun hF => ?_)
    cases hF
    exact gx_dretX hx hb hr hlocks hw dX6_meanHold_35
  cases hF
  exact gx_throwSW (pc := 12) (i := 5) rfl (by decide +kernel) gx_kt5 hx hb hl9 hown hlocks htab hV hZ hw (hl.1.trans hml.symm) (List.mem_of_getElem? (i := 25) rfl) (by decide) (by decide) (by decide) (by decide) dX6_meanHold_12 dX6_meanHold_15 dX6_meanHold_16 dX6_meanHold_19 dX6_meanHold_22
set_option maxRecDepth 100000 in
theorem cx_X6_meanHold {l : Launch} {G : gx_G} {M : gx_S} {o : Int64} {d : UInt64} {I V : gx_F} {p : Program} {e : Env} {R : Room} {s : State} {m : MethodId} {args : Array Value} {below : List Frame} {meth : Method} {c : Code} {H : Heap} {locs : List Loc} {Q : State → Prop} {cc : ByteArray} {pc nL index : Nat} {ls : Array Slot} {rest : List Value} {own : String} {out : (UInt64 ⊕ Nat)} (hl9 : l.stackTraces = false) (hx : p.tables.exec = Jvm.exec) (hb : c.code = cc) (hml : c.maxLocals = nL) (hown : s.vm.findClass own = some m.cls) (hV : gx_V G s) (hZ : gx_Z G s s.heap) (hw : gx_at G (I, V) M o d s.heap H locs) (hF : f_X6_meanHold I V = some out) (hlink : (Cond.methodLink own index yX6_meanHold).before args s = true) (hsz : ls.size = nL) (hfr : 7 ≤ R.frames) (hlo : 113 ≤ R.locals) (hrest : (rest.map fun v => v.category).sum ≤ 8) (hc : 1 ≤ R.cells) (hs : 6 ≤ R.slots) (hdg : decode cc pc = .ok (.invokevirtual index, 3))
    (kx : ∀ (i : Nat) (ce : Cell) (q8 : Addr) (H1 : Heap) (locs1 : List Loc), out = .inr i → gx_at G (I, V) M o d s.heap H1 locs1 → H1[q8]? = some ce → ce.vm = .none → s.vm.findClass (gx_en i) = some ce.cls → vx_W p l e R s m args below meth c H1 locs1 1 6 Q (F0 m pc ls rest) q8)
    (kk : ∀ (q9 : UInt64) (H1 : Heap) (locs1 : List Loc), out = .inl q9 → gx_at G (I, V) M o d s.heap H1 locs1 → W p l e R s m args below meth c H1 locs1 1 6 Q (F0 m (pc + 3) ls (.double q9 :: rest))) : W p l e R s m args below meth c H locs 0 0 Q (F0 m pc ls (.ref (G.2.1 44) :: rest)) := by
  exact vx_calld (vx_runV (C := RX6) (As := []) (rest := rest) ⟨hx, hb, hml, hown, (fun _ h => nomatch h : ∀ w ∈ ([] : List Cond), w.before args s = true)⟩ (k_X6_meanHold hl9 hF) ⟨gx_callB (n := 0) rfl rfl hlink (gw_49 hV) (gw_961 hV) (by decide +kernel) ⟨hfr, hlo⟩, gw_959 hV, gw_960 hV⟩ (gx_recvX (k := 44) (ci := 8) (T := TX6) hV hZ hw (by decide) rfl rfl) rfl rfl hsz rfl (lv_room hrest) hdg ⟨hc, hs⟩) hw.2.1 (fun _ _ h => h) (fun _ h => h) (fun _ _ h => h) (fun E ce q8 i t H1 locs1 ht _ hp hB _ _ hS h1 h2 h3 => by obtain ⟨rfl, hB⟩ := hB; exact kx i ce q8 H1 locs1 hp (gx_back hw ht hB hS) h1 h2 h3) (fun r _ t H1 locs1 ht _ hp hB _ _ hS => kk r H1 locs1 hp (gx_back hw ht hB hS))
set_option maxHeartbeats 4000000 in
set_option maxRecDepth 100000 in
theorem k_X6_standing {l : Launch} {G : gx_G} {M : gx_S} {o : Int64} {d : UInt64} {I V : gx_F} {out : ((UInt32 ⊕ Nat) × gx_F × gx_F)} (hl9 : l.stackTraces = false) (hF : f_X6_standing I V = some out) : gx_KX l yX6_standing cX6_standing 2 (some .float) { frames := 6, cells := 1, slots := 6, locals := 94 } [.ref (G.2.1 44)] G (I, V) M o d (gx_QXf G out.1 (out.2.1, out.2.2) M o d) out.1 (out.2.1, out.2.2) := by
  refine gx_beginX (by decide +kernel) (Nat.le_of_ble_eq_true rfl) ?_
  intro p e s m below meth c hx hb hr hml hown hlocks htab hV hZ hw ls hl
  have hown : s.vm.findClass RX6 = some m.cls := hown
  have hl : lv_has ls 2 [(0, .ref (G.2.1 44))] := hl
  unfold f_X6_standing at hF
  refine lv_aload_n (pc := 0) hx hb dX6_standing_0 rfl (lv_at hl 0 rfl) ?_
  refine gg_X6_0 (pc := 1) hx hb hown hV hw (gw_233 hV) dX6_standing_1 ?_
  obtain ⟨uq_1, huq_1, hF⟩ := Option.bind_eq_some_iff.mp hF
  refine cl_X5_brickCount (pc := 4) hx hb hml hown hV hw gx_w0 huq_1 (gw_277 hV) hl.1 (Nat.le_of_ble_eq_true rfl) (Nat.le_of_ble_eq_true rfl) (Nat.le_of_ble_eq_true rfl) dX6_standing_4 (fun H locs hw => ?_)
  refine lv_istore_n (pc := 7) (lv' := [(1, .int uq_1), (0, .ref (G.2.1 44))]) hx hb dX6_standing_7 rfl hl (by decide) rfl (fun ls hl => ?_)
  refine lv_iload_n (pc := 8) hx hb dX6_standing_8 rfl (lv_at hl 0 rfl) ?_
  refine gx_if_ne (pc := 9) (tgt := 23) hx hb hF dX6_standing_9 (by decide) (fun hF => ?_) (fun hF => ?_)
  · refine lv_aload_n (pc := 23) hx hb dX6_standing_23 rfl (lv_at hl 1 rfl) ?_
    refine gg_X6_5 (pc := 24) hx hb hown hV hw (gw_238 hV) dX6_standing_24 ?_
    refine lv_aload_n (pc := 27) hx hb dX6_standing_27 rfl (lv_at hl 1 rfl) ?_
    refine gg_X6_0 (pc := 28) hx hb hown hV hw (gw_233 hV) dX6_standing_28 ?_
    refine lv_iconst (pc := 31) (v := (-1)) hx hb dX6_standing_31 (by decide) ?_
    obtain ⟨uq_2, huq_2, hF⟩ := Option.bind_eq_some_iff.mp hF
    refine cl_X0_countWithout (pc := 32) hx hb hml hown hV hw gx_w0 huq_2 (gw_289 hV) hl.1 (Nat.le_of_ble_eq_true rfl) (Nat.le_of_ble_eq_true rfl) (Nat.le_of_ble_eq_true rfl) dX6_standing_32 (fun H locs hw => ?_)
    refine lv_i2f (pc := 35) hx hb dX6_standing_35 ?_
    refine lv_iload_n (pc := 36) hx hb dX6_standing_36 rfl (lv_at hl 0 rfl) ?_
    refine lv_i2f (pc := 37) hx hb dX6_standing_37 ?_
    refine gx_fdiv (pc := 38) hx hb hF dX6_standing_38 (fun hF => ?_)
    cases hF
    exact gx_fretX hx hb hr hlocks hw dX6_standing_39
  cases hF
  exact gx_throwSW (pc := 12) (i := 5) rfl (by decide +kernel) gx_kt5 hx hb hl9 hown hlocks htab hV hZ hw (hl.1.trans hml.symm) (List.mem_of_getElem? (i := 25) rfl) (by decide) (by decide) (by decide) (by decide) dX6_standing_12 dX6_standing_15 dX6_standing_16 dX6_standing_19 dX6_standing_22
set_option maxRecDepth 100000 in
theorem cx_X6_standing {l : Launch} {G : gx_G} {M : gx_S} {o : Int64} {d : UInt64} {I V : gx_F} {p : Program} {e : Env} {R : Room} {s : State} {m : MethodId} {args : Array Value} {below : List Frame} {meth : Method} {c : Code} {H : Heap} {locs : List Loc} {Q : State → Prop} {cc : ByteArray} {pc nL index : Nat} {ls : Array Slot} {rest : List Value} {own : String} {out : ((UInt32 ⊕ Nat) × gx_F × gx_F)} (hl9 : l.stackTraces = false) (hx : p.tables.exec = Jvm.exec) (hb : c.code = cc) (hml : c.maxLocals = nL) (hown : s.vm.findClass own = some m.cls) (hV : gx_V G s) (hZ : gx_Z G s s.heap) (hw : gx_at G (I, V) M o d s.heap H locs) (hF : f_X6_standing I V = some out) (hlink : (Cond.methodLink own index yX6_standing).before args s = true) (hsz : ls.size = nL) (hfr : 7 ≤ R.frames) (hlo : 115 ≤ R.locals) (hrest : (rest.map fun v => v.category).sum ≤ 8) (hc : 1 ≤ R.cells) (hs : 6 ≤ R.slots) (hdg : decode cc pc = .ok (.invokevirtual index, 3))
    (kx : ∀ (i : Nat) (ce : Cell) (q8 : Addr) (H1 : Heap) (locs1 : List Loc), out.1 = .inr i → gx_at G (out.2.1, out.2.2) M o d s.heap H1 locs1 → H1[q8]? = some ce → ce.vm = .none → s.vm.findClass (gx_en i) = some ce.cls → vx_W p l e R s m args below meth c H1 locs1 1 6 Q (F0 m pc ls rest) q8)
    (kk : ∀ (q9 : UInt32) (H1 : Heap) (locs1 : List Loc), out.1 = .inl q9 → gx_at G (out.2.1, out.2.2) M o d s.heap H1 locs1 → W p l e R s m args below meth c H1 locs1 1 6 Q (F0 m (pc + 3) ls (.float q9 :: rest))) : W p l e R s m args below meth c H locs 0 0 Q (F0 m pc ls (.ref (G.2.1 44) :: rest)) := by
  exact vx_callf (vx_runV (C := RX6) (As := []) (rest := rest) ⟨hx, hb, hml, hown, (fun _ h => nomatch h : ∀ w ∈ ([] : List Cond), w.before args s = true)⟩ (k_X6_standing hl9 hF) ⟨gx_callB (n := 0) rfl rfl hlink (gw_49 hV) (gw_971 hV) (by decide +kernel) ⟨hfr, hlo⟩, gw_969 hV, gw_970 hV⟩ (gx_recvX (k := 44) (ci := 8) (T := TX6) hV hZ hw (by decide) rfl rfl) rfl rfl hsz rfl (lv_room hrest) hdg ⟨hc, hs⟩) hw.2.1 (fun _ _ h => h) (fun _ h => h) (fun _ _ h => h) (fun E ce q8 i t H1 locs1 ht _ hp hB _ _ hS h1 h2 h3 => by obtain ⟨rfl, hB⟩ := hB; exact kx i ce q8 H1 locs1 hp (gx_back hw ht hB hS) h1 h2 h3) (fun r _ t H1 locs1 ht _ hp hB _ _ hS => kk r H1 locs1 hp (gx_back hw ht hB hS))
set_option maxHeartbeats 4000000 in
set_option maxRecDepth 100000 in
theorem k_X6_account {l : Launch} {G : gx_G} {M : gx_S} {o : Int64} {d : UInt64} {I V : gx_F} {x1 : Int32} {out : (Int32 ⊕ Nat)} (hl9 : l.stackTraces = false) (hF : f_X6_account x1 I V = some out) : gx_KX l yX6_account cX6_account 2 (some .int) { frames := 6, cells := 1, slots := 6, locals := 92 } [.ref (G.2.1 44), .int x1] G (I, V) M o d (gx_QXi G out (I, V) M o d) out (I, V) := by
  refine gx_beginX (by decide +kernel) (Nat.le_of_ble_eq_true rfl) ?_
  intro p e s m below meth c hx hb hr hml hown hlocks htab hV hZ hw ls hl
  have hown : s.vm.findClass RX6 = some m.cls := hown
  have hl : lv_has ls 2 [(0, .ref (G.2.1 44)), (1, .int x1)] := hl
  unfold f_X6_account at hF
  refine lv_iload_n (pc := 0) hx hb dX6_account_0 rfl (lv_at hl 1 rfl) ?_
  by_cases hs0 : x1 = 0
  · rw [if_pos hs0] at hF
    refine lv_tableIn (pc := 1) (off := 55) (tgt := 56) hx hb dX6_account_1 (by rw [hs0]; decide) (by rw [hs0]; decide) (by rw [hs0]; rfl) (by decide) ?_
    refine lv_aload_n (pc := 56) hx hb dX6_account_56 rfl (lv_at hl 0 rfl) ?_
    refine gg_X6_0 (pc := 57) hx hb hown hV hw (gw_233 hV) dX6_account_57 ?_
    refine gg_X5_3 (pc := 60) hx hb hown hV hw gx_w0 (gw_93 hV) dX6_account_60 ?_
    cases hF
    exact gx_iretX hx hb hr hlocks hw dX6_account_63
  rw [if_neg hs0] at hF
  by_cases hs1 : x1 = 1
  · rw [if_pos hs1] at hF
    refine lv_tableIn (pc := 1) (off := 63) (tgt := 64) hx hb dX6_account_1 (by rw [hs1]; decide) (by rw [hs1]; decide) (by rw [hs1]; rfl) (by decide) ?_
    refine lv_aload_n (pc := 64) hx hb dX6_account_64 rfl (lv_at hl 0 rfl) ?_
    refine gg_X6_0 (pc := 65) hx hb hown hV hw (gw_233 hV) dX6_account_65 ?_
    obtain ⟨uq_1, huq_1, hF⟩ := Option.bind_eq_some_iff.mp hF
    refine cl_X5_brickCount (pc := 68) hx hb hml hown hV hw gx_w0 huq_1 (gw_277 hV) hl.1 (Nat.le_of_ble_eq_true rfl) (Nat.le_of_ble_eq_true rfl) (Nat.le_of_ble_eq_true rfl) dX6_account_68 (fun H locs hw => ?_)
    cases hF
    exact gx_iretX hx hb hr hlocks hw dX6_account_71
  rw [if_neg hs1] at hF
  by_cases hs2 : x1 = 2
  · rw [if_pos hs2] at hF
    refine lv_tableIn (pc := 1) (off := 71) (tgt := 72) hx hb dX6_account_1 (by rw [hs2]; decide) (by rw [hs2]; decide) (by rw [hs2]; rfl) (by decide) ?_
    refine lv_aload_n (pc := 72) hx hb dX6_account_72 rfl (lv_at hl 0 rfl) ?_
    refine gg_X6_0 (pc := 73) hx hb hown hV hw (gw_233 hV) dX6_account_73 ?_
    refine gg_X5_4 (pc := 76) hx hb hown hV hw gx_w0 (gw_97 hV) dX6_account_76 ?_
    cases hF
    exact gx_iretX hx hb hr hlocks hw dX6_account_79
  rw [if_neg hs2] at hF
  by_cases hs3 : x1 = 3
  · rw [if_pos hs3] at hF
    refine lv_tableIn (pc := 1) (off := 79) (tgt := 80) hx hb dX6_account_1 (by rw [hs3]; decide) (by rw [hs3]; decide) (by rw [hs3]; rfl) (by decide) ?_
    refine lv_aload_n (pc := 80) hx hb dX6_account_80 rfl (lv_at hl 0 rfl) ?_
    refine gg_X6_0 (pc := 81) hx hb hown hV hw (gw_233 hV) dX6_account_81 ?_
    refine gg_X5_6 (pc := 84) hx hb hown hV hw gx_w0 (gw_103 hV) dX6_account_84 ?_
    cases hF
    exact gx_iretX hx hb hr hlocks hw dX6_account_87
  rw [if_neg hs3] at hF
  by_cases hs4 : x1 = 4
  · rw [if_pos hs4] at hF
    refine lv_tableIn (pc := 1) (off := 87) (tgt := 88) hx hb dX6_account_1 (by rw [hs4]; decide) (by rw [hs4]; decide) (by rw [hs4]; rfl) (by decide) ?_
    refine lv_aload_n (pc := 88) hx hb dX6_account_88 rfl (lv_at hl 0 rfl) ?_
    refine gg_X6_0 (pc := 89) hx hb hown hV hw (gw_233 hV) dX6_account_89 ?_
    refine gg_X5_7 (pc := 92) hx hb hown hV hw gx_w0 (gw_106 hV) dX6_account_92 ?_
    cases hF
    exact gx_iretX hx hb hr hlocks hw dX6_account_95
  rw [if_neg hs4] at hF
  by_cases hs5 : x1 = 5
  · rw [if_pos hs5] at hF
    refine lv_tableIn (pc := 1) (off := 95) (tgt := 96) hx hb dX6_account_1 (by rw [hs5]; decide) (by rw [hs5]; decide) (by rw [hs5]; rfl) (by decide) ?_
    refine lv_aload_n (pc := 96) hx hb dX6_account_96 rfl (lv_at hl 0 rfl) ?_
    refine gg_X6_0 (pc := 97) hx hb hown hV hw (gw_233 hV) dX6_account_97 ?_
    refine gg_X5_8 (pc := 100) hx hb hown hV hw gx_w0 (gw_108 hV) dX6_account_100 ?_
    cases hF
    exact gx_iretX hx hb hr hlocks hw dX6_account_103
  rw [if_neg hs5] at hF
  by_cases hs6 : x1 = 6
  · rw [if_pos hs6] at hF
    refine lv_tableIn (pc := 1) (off := 103) (tgt := 104) hx hb dX6_account_1 (by rw [hs6]; decide) (by rw [hs6]; decide) (by rw [hs6]; rfl) (by decide) ?_
    refine lv_aload_n (pc := 104) hx hb dX6_account_104 rfl (lv_at hl 0 rfl) ?_
    refine gg_X6_0 (pc := 105) hx hb hown hV hw (gw_233 hV) dX6_account_105 ?_
    refine lv_iconst (pc := 108) (v := (-1)) hx hb dX6_account_108 (by decide) ?_
    obtain ⟨uq_2, huq_2, hF⟩ := Option.bind_eq_some_iff.mp hF
    refine cl_X5_allHolds (pc := 109) hx hb hml hown hV hw gx_w0 huq_2 (gw_724 hV) hl.1 (Nat.le_of_ble_eq_true rfl) (Nat.le_of_ble_eq_true rfl) (Nat.le_of_ble_eq_true rfl) dX6_account_109 (fun H locs hw => ?_)
    cases hF
    exact gx_iretX hx hb hr hlocks hw dX6_account_112
  rw [if_neg hs6] at hF
  by_cases hs7 : x1 = 7
  · rw [if_pos hs7] at hF
    refine lv_tableIn (pc := 1) (off := 112) (tgt := 113) hx hb dX6_account_1 (by rw [hs7]; decide) (by rw [hs7]; decide) (by rw [hs7]; rfl) (by decide) ?_
    refine lv_aload_n (pc := 113) hx hb dX6_account_113 rfl (lv_at hl 0 rfl) ?_
    refine gg_X6_0 (pc := 114) hx hb hown hV hw (gw_233 hV) dX6_account_114 ?_
    obtain ⟨uq_3, huq_3, hF⟩ := Option.bind_eq_some_iff.mp hF
    refine cl_X5_neighbourPairs (pc := 117) hx hb hml hown hV hw gx_w0 huq_3 (gw_979 hV) hl.1 (Nat.le_of_ble_eq_true rfl) (Nat.le_of_ble_eq_true rfl) (Nat.le_of_ble_eq_true rfl) dX6_account_117 (fun H locs hw => ?_)
    cases hF
    exact gx_iretX hx hb hr hlocks hw dX6_account_120
  rw [if_neg hs7] at hF
  by_cases hs8 : x1 = 8
  · rw [if_pos hs8] at hF
    refine lv_tableIn (pc := 1) (off := 120) (tgt := 121) hx hb dX6_account_1 (by rw [hs8]; decide) (by rw [hs8]; decide) (by rw [hs8]; rfl) (by decide) ?_
    refine lv_aload_n (pc := 121) hx hb dX6_account_121 rfl (lv_at hl 0 rfl) ?_
    refine gg_X6_4 (pc := 122) hx hb hown hV hw (gw_237 hV) dX6_account_122 ?_
    refine gg_X2_2 (pc := 125) hx hb hown hV hw (gw_141 hV) dX6_account_125 ?_
    cases hF
    exact gx_iretX hx hb hr hlocks hw dX6_account_128
  rw [if_neg hs8] at hF
  by_cases hs9 : x1 = 9
  · rw [if_pos hs9] at hF
    refine lv_tableIn (pc := 1) (off := 128) (tgt := 129) hx hb dX6_account_1 (by rw [hs9]; decide) (by rw [hs9]; decide) (by rw [hs9]; rfl) (by decide) ?_
    refine lv_aload_n (pc := 129) hx hb dX6_account_129 rfl (lv_at hl 0 rfl) ?_
    refine gg_X6_9 (pc := 130) hx hb hown hV hw (gw_242 hV) dX6_account_130 ?_
    refine gg_X4_4 (pc := 133) hx hb hown hV hw (gw_216 hV) dX6_account_133 ?_
    cases hF
    exact gx_iretX hx hb hr hlocks hw dX6_account_136
  rw [if_neg hs9] at hF
  refine gx_tableD (pc := 1) (tgt := 137) hx hb dX6_account_1 [0, 1, 2, 3, 4, 5, 6, 7, 8, 9] (List.forall_mem_cons.mpr ⟨hs0, (List.forall_mem_cons.mpr ⟨hs1, (List.forall_mem_cons.mpr ⟨hs2, (List.forall_mem_cons.mpr ⟨hs3, (List.forall_mem_cons.mpr ⟨hs4, (List.forall_mem_cons.mpr ⟨hs5, (List.forall_mem_cons.mpr ⟨hs6, (List.forall_mem_cons.mpr ⟨hs7, (List.forall_mem_cons.mpr ⟨hs8, (List.forall_mem_cons.mpr ⟨hs9, (fun _ h => nomatch h)⟩)⟩)⟩)⟩)⟩)⟩)⟩)⟩)⟩)⟩) (by decide) (by decide) (by decide) ?_
  cases hF
  exact gx_throwSW (pc := 137) (i := 2) rfl (by decide +kernel) gx_kt2 hx hb hl9 hown hlocks htab hV hZ hw (hl.1.trans hml.symm) (List.mem_of_getElem? (i := 26) rfl) (by decide) (by decide) (by decide) (by decide) dX6_account_137 dX6_account_140 dX6_account_141 dX6_account_144 dX6_account_147
set_option maxRecDepth 100000 in
theorem cx_X6_account {l : Launch} {G : gx_G} {M : gx_S} {o : Int64} {d : UInt64} {I V : gx_F} {p : Program} {e : Env} {R : Room} {s : State} {m : MethodId} {args : Array Value} {below : List Frame} {meth : Method} {c : Code} {H : Heap} {locs : List Loc} {Q : State → Prop} {cc : ByteArray} {pc nL index : Nat} {ls : Array Slot} {rest : List Value} {own : String} {x1 : Int32} {out : (Int32 ⊕ Nat)} (hl9 : l.stackTraces = false) (hx : p.tables.exec = Jvm.exec) (hb : c.code = cc) (hml : c.maxLocals = nL) (hown : s.vm.findClass own = some m.cls) (hV : gx_V G s) (hZ : gx_Z G s s.heap) (hw : gx_at G (I, V) M o d s.heap H locs) (hF : f_X6_account x1 I V = some out) (hlink : (Cond.methodLink own index yX6_account).before args s = true) (hsz : ls.size = nL) (hfr : 7 ≤ R.frames) (hlo : 113 ≤ R.locals) (hrest : (rest.map fun v => v.category).sum ≤ 8) (hc : 1 ≤ R.cells) (hs : 6 ≤ R.slots) (hdg : decode cc pc = .ok (.invokevirtual index, 3))
    (kx : ∀ (i : Nat) (ce : Cell) (q8 : Addr) (H1 : Heap) (locs1 : List Loc), out = .inr i → gx_at G (I, V) M o d s.heap H1 locs1 → H1[q8]? = some ce → ce.vm = .none → s.vm.findClass (gx_en i) = some ce.cls → vx_W p l e R s m args below meth c H1 locs1 1 6 Q (F0 m pc ls rest) q8)
    (kk : ∀ (q9 : Int32) (H1 : Heap) (locs1 : List Loc), out = .inl q9 → gx_at G (I, V) M o d s.heap H1 locs1 → W p l e R s m args below meth c H1 locs1 1 6 Q (F0 m (pc + 3) ls (.int q9 :: rest))) : W p l e R s m args below meth c H locs 0 0 Q (F0 m pc ls (.int x1 :: .ref (G.2.1 44) :: rest)) := by
  exact vx_calli (vx_runV (C := RX6) (As := [.int x1]) (rest := rest) ⟨hx, hb, hml, hown, (fun _ h => nomatch h : ∀ w ∈ ([] : List Cond), w.before args s = true)⟩ (k_X6_account hl9 hF) ⟨gx_callB (n := 1) rfl rfl hlink (gw_49 hV) (gw_978 hV) (by decide +kernel) ⟨hfr, hlo⟩, gw_976 hV, gw_977 hV⟩ (gx_recvX (k := 44) (ci := 8) (T := TX6) hV hZ hw (by decide) rfl rfl) rfl rfl hsz rfl (lv_room hrest) hdg ⟨hc, hs⟩) hw.2.1 (fun _ _ h => h) (fun _ h => h) (fun _ _ h => h) (fun E ce q8 i t H1 locs1 ht _ hp hB _ _ hS h1 h2 h3 => by obtain ⟨rfl, hB⟩ := hB; exact kx i ce q8 H1 locs1 hp (gx_back hw ht hB hS) h1 h2 h3) (fun r _ t H1 locs1 ht _ hp hB _ _ hS => kk r H1 locs1 hp (gx_back hw ht hB hS))
set_option maxHeartbeats 4000000 in
set_option maxRecDepth 100000 in
theorem k_X6_undo {l : Launch} {G : gx_G} {M : gx_S} {o : Int64} {d : UInt64} {I V : gx_F} {out : ((Int32 ⊕ Nat) × gx_F × gx_F)} (hl9 : l.stackTraces = false) (hF : f_X6_undo I V = some out) : gx_KX l yX6_undo cX6_undo 1 (some .int) { frames := 6, cells := 1, slots := 6, locals := 122 } [.ref (G.2.1 44)] G (I, V) M o d (gx_QXi G out.1 (out.2.1, out.2.2) M o d) out.1 (out.2.1, out.2.2) := by
  refine gx_beginX (by decide +kernel) (Nat.le_of_ble_eq_true rfl) ?_
  intro p e s m below meth c hx hb hr hml hown hlocks htab hV hZ hw ls hl
  have hown : s.vm.findClass RX6 = some m.cls := hown
  have hl : lv_has ls 1 [(0, .ref (G.2.1 44))] := hl
  unfold f_X6_undo at hF
  refine lv_aload_n (pc := 0) hx hb dX6_undo_0 rfl (lv_at hl 0 rfl) ?_
  refine gg_X6_4 (pc := 1) hx hb hown hV hw (gw_237 hV) dX6_undo_1 ?_
  refine gg_X2_2 (pc := 4) hx hb hown hV hw (gw_141 hV) dX6_undo_4 ?_
  refine gx_if_ne (pc := 7) (tgt := 21) hx hb hF dX6_undo_7 (by decide) (fun hF => ?_) (fun hF => ?_)
  · refine lv_aload_n (pc := 21) hx hb dX6_undo_21 rfl (lv_at hl 0 rfl) ?_
    refine gg_X6_4 (pc := 22) hx hb hown hV hw (gw_237 hV) dX6_undo_22 ?_
    refine lv_aload_n (pc := 25) hx hb dX6_undo_25 rfl (lv_at hl 0 rfl) ?_
    refine gg_X6_0 (pc := 26) hx hb hown hV hw (gw_233 hV) dX6_undo_26 ?_
    obtain ⟨uq_1, huq_1, hF⟩ := Option.bind_eq_some_iff.mp hF
    refine cl_X2_popInto (pc := 29) hx hb hml hown hV hw gx_w0 huq_1 (gw_996 hV) hl.1 (Nat.le_of_ble_eq_true rfl) (Nat.le_of_ble_eq_true rfl) (Nat.le_of_ble_eq_true rfl) dX6_undo_29 (fun H locs hw => ?_)
    refine lv_aload_n (pc := 32) hx hb dX6_undo_32 rfl (lv_at hl 0 rfl) ?_
    refine gg_X6_4 (pc := 33) hx hb hown hV hw (gw_237 hV) dX6_undo_33 ?_
    refine gg_X2_2 (pc := 36) hx hb hown hV hw (gw_141 hV) dX6_undo_36 ?_
    cases hF
    exact gx_iretX hx hb hr hlocks hw dX6_undo_39
  cases hF
  exact gx_throwSW (pc := 10) (i := 4) rfl (by decide +kernel) gx_kt4 hx hb hl9 hown hlocks htab hV hZ hw (hl.1.trans hml.symm) (List.mem_of_getElem? (i := 27) rfl) (by decide) (by decide) (by decide) (by decide) dX6_undo_10 dX6_undo_13 dX6_undo_14 dX6_undo_17 dX6_undo_20
set_option maxRecDepth 100000 in
theorem cx_X6_undo {l : Launch} {G : gx_G} {M : gx_S} {o : Int64} {d : UInt64} {I V : gx_F} {p : Program} {e : Env} {R : Room} {s : State} {m : MethodId} {args : Array Value} {below : List Frame} {meth : Method} {c : Code} {H : Heap} {locs : List Loc} {Q : State → Prop} {cc : ByteArray} {pc nL index : Nat} {ls : Array Slot} {rest : List Value} {own : String} {out : ((Int32 ⊕ Nat) × gx_F × gx_F)} (hl9 : l.stackTraces = false) (hx : p.tables.exec = Jvm.exec) (hb : c.code = cc) (hml : c.maxLocals = nL) (hown : s.vm.findClass own = some m.cls) (hV : gx_V G s) (hZ : gx_Z G s s.heap) (hw : gx_at G (I, V) M o d s.heap H locs) (hF : f_X6_undo I V = some out) (hlink : (Cond.methodLink own index yX6_undo).before args s = true) (hsz : ls.size = nL) (hfr : 7 ≤ R.frames) (hlo : 142 ≤ R.locals) (hrest : (rest.map fun v => v.category).sum ≤ 8) (hc : 1 ≤ R.cells) (hs : 6 ≤ R.slots) (hdg : decode cc pc = .ok (.invokevirtual index, 3))
    (kx : ∀ (i : Nat) (ce : Cell) (q8 : Addr) (H1 : Heap) (locs1 : List Loc), out.1 = .inr i → gx_at G (out.2.1, out.2.2) M o d s.heap H1 locs1 → H1[q8]? = some ce → ce.vm = .none → s.vm.findClass (gx_en i) = some ce.cls → vx_W p l e R s m args below meth c H1 locs1 1 6 Q (F0 m pc ls rest) q8)
    (kk : ∀ (q9 : Int32) (H1 : Heap) (locs1 : List Loc), out.1 = .inl q9 → gx_at G (out.2.1, out.2.2) M o d s.heap H1 locs1 → W p l e R s m args below meth c H1 locs1 1 6 Q (F0 m (pc + 3) ls (.int q9 :: rest))) : W p l e R s m args below meth c H locs 0 0 Q (F0 m pc ls (.ref (G.2.1 44) :: rest)) := by
  exact vx_calli (vx_runV (C := RX6) (As := []) (rest := rest) ⟨hx, hb, hml, hown, (fun _ h => nomatch h : ∀ w ∈ ([] : List Cond), w.before args s = true)⟩ (k_X6_undo hl9 hF) ⟨gx_callB (n := 0) rfl rfl hlink (gw_49 hV) (gw_994 hV) (by decide +kernel) ⟨hfr, hlo⟩, gw_992 hV, gw_993 hV⟩ (gx_recvX (k := 44) (ci := 8) (T := TX6) hV hZ hw (by decide) rfl rfl) rfl rfl hsz rfl (lv_room hrest) hdg ⟨hc, hs⟩) hw.2.1 (fun _ _ h => h) (fun _ h => h) (fun _ _ h => h) (fun E ce q8 i t H1 locs1 ht _ hp hB _ _ hS h1 h2 h3 => by obtain ⟨rfl, hB⟩ := hB; exact kx i ce q8 H1 locs1 hp (gx_back hw ht hB hS) h1 h2 h3) (fun r _ t H1 locs1 ht _ hp hB _ _ hS => kk r H1 locs1 hp (gx_back hw ht hB hS))
set_option maxHeartbeats 4000000 in
set_option maxRecDepth 100000 in
theorem k_X6_restore {l : Launch} {G : gx_G} {M : gx_S} {o : Int64} {d : UInt64} {I V : gx_F} {out : ((Int32 ⊕ Nat) × gx_F × gx_F)} (hl9 : l.stackTraces = false) (hF : f_X6_restore I V = some out) : gx_KX l yX6_restore cX6_restore 1 (some .int) { frames := 6, cells := 1, slots := 6, locals := 101 } [.ref (G.2.1 44)] G (I, V) M o d (gx_QXi G out.1 (out.2.1, out.2.2) M o d) out.1 (out.2.1, out.2.2) := by
  refine gx_beginX (by decide +kernel) (Nat.le_of_ble_eq_true rfl) ?_
  intro p e s m below meth c hx hb hr hml hown hlocks htab hV hZ hw ls hl
  have hown : s.vm.findClass RX6 = some m.cls := hown
  have hl : lv_has ls 1 [(0, .ref (G.2.1 44))] := hl
  unfold f_X6_restore at hF
  refine lv_aload_n (pc := 0) hx hb dX6_restore_0 rfl (lv_at hl 0 rfl) ?_
  refine gg_X6_3 (pc := 1) hx hb hown hV hw (gw_236 hV) dX6_restore_1 ?_
  refine gx_if_ne (pc := 4) (tgt := 18) hx hb hF dX6_restore_4 (by decide) (fun hF => ?_) (fun hF => ?_)
  · refine lv_aload_n (pc := 18) hx hb dX6_restore_18 rfl (lv_at hl 0 rfl) ?_
    refine gg_X6_0 (pc := 19) hx hb hown hV hw (gw_233 hV) dX6_restore_19 ?_
    refine lv_aload_n (pc := 22) hx hb dX6_restore_22 rfl (lv_at hl 0 rfl) ?_
    refine gg_X6_2 (pc := 23) hx hb hown hV hw (gw_235 hV) dX6_restore_23 ?_
    obtain ⟨uq_1, huq_1, hF⟩ := Option.bind_eq_some_iff.mp hF
    refine cl_X5_copyFrom (pc := 26) hx hb hml hown hV hw gx_w0 gx_w8 huq_1 (gw_369 hV) hl.1 (Nat.le_of_ble_eq_true rfl) (Nat.le_of_ble_eq_true rfl) (Nat.le_of_ble_eq_true rfl) dX6_restore_26 (fun H locs hw => ?_)
    refine lv_aload_n (pc := 29) hx hb dX6_restore_29 rfl (lv_at hl 0 rfl) ?_
    refine gg_X6_4 (pc := 30) hx hb hown hV hw (gw_237 hV) dX6_restore_30 ?_
    obtain ⟨uq_2, huq_2, hF⟩ := Option.bind_eq_some_iff.mp hF
    refine cl_X2_forget (pc := 33) hx hb hml hown hV hw huq_2 (gw_1008 hV) hl.1 (Nat.le_of_ble_eq_true rfl) (Nat.le_of_ble_eq_true rfl) (Nat.le_of_ble_eq_true rfl) dX6_restore_33 (fun H locs hw => ?_)
    refine lv_aload_n (pc := 36) hx hb dX6_restore_36 rfl (lv_at hl 0 rfl) ?_
    refine gg_X6_0 (pc := 37) hx hb hown hV hw (gw_233 hV) dX6_restore_37 ?_
    obtain ⟨uq_3, huq_3, hF⟩ := Option.bind_eq_some_iff.mp hF
    refine cl_X5_brickCount (pc := 40) hx hb hml hown hV hw gx_w0 huq_3 (gw_277 hV) hl.1 (Nat.le_of_ble_eq_true rfl) (Nat.le_of_ble_eq_true rfl) (Nat.le_of_ble_eq_true rfl) dX6_restore_40 (fun H locs hw => ?_)
    cases hF
    exact gx_iretX hx hb hr hlocks hw dX6_restore_43
  cases hF
  exact gx_throwSW (pc := 7) (i := 4) rfl (by decide +kernel) gx_kt4 hx hb hl9 hown hlocks htab hV hZ hw (hl.1.trans hml.symm) (List.mem_of_getElem? (i := 28) rfl) (by decide) (by decide) (by decide) (by decide) dX6_restore_7 dX6_restore_10 dX6_restore_11 dX6_restore_14 dX6_restore_17
set_option maxRecDepth 100000 in
theorem cx_X6_restore {l : Launch} {G : gx_G} {M : gx_S} {o : Int64} {d : UInt64} {I V : gx_F} {p : Program} {e : Env} {R : Room} {s : State} {m : MethodId} {args : Array Value} {below : List Frame} {meth : Method} {c : Code} {H : Heap} {locs : List Loc} {Q : State → Prop} {cc : ByteArray} {pc nL index : Nat} {ls : Array Slot} {rest : List Value} {own : String} {out : ((Int32 ⊕ Nat) × gx_F × gx_F)} (hl9 : l.stackTraces = false) (hx : p.tables.exec = Jvm.exec) (hb : c.code = cc) (hml : c.maxLocals = nL) (hown : s.vm.findClass own = some m.cls) (hV : gx_V G s) (hZ : gx_Z G s s.heap) (hw : gx_at G (I, V) M o d s.heap H locs) (hF : f_X6_restore I V = some out) (hlink : (Cond.methodLink own index yX6_restore).before args s = true) (hsz : ls.size = nL) (hfr : 7 ≤ R.frames) (hlo : 121 ≤ R.locals) (hrest : (rest.map fun v => v.category).sum ≤ 8) (hc : 1 ≤ R.cells) (hs : 6 ≤ R.slots) (hdg : decode cc pc = .ok (.invokevirtual index, 3))
    (kx : ∀ (i : Nat) (ce : Cell) (q8 : Addr) (H1 : Heap) (locs1 : List Loc), out.1 = .inr i → gx_at G (out.2.1, out.2.2) M o d s.heap H1 locs1 → H1[q8]? = some ce → ce.vm = .none → s.vm.findClass (gx_en i) = some ce.cls → vx_W p l e R s m args below meth c H1 locs1 1 6 Q (F0 m pc ls rest) q8)
    (kk : ∀ (q9 : Int32) (H1 : Heap) (locs1 : List Loc), out.1 = .inl q9 → gx_at G (out.2.1, out.2.2) M o d s.heap H1 locs1 → W p l e R s m args below meth c H1 locs1 1 6 Q (F0 m (pc + 3) ls (.int q9 :: rest))) : W p l e R s m args below meth c H locs 0 0 Q (F0 m pc ls (.ref (G.2.1 44) :: rest)) := by
  exact vx_calli (vx_runV (C := RX6) (As := []) (rest := rest) ⟨hx, hb, hml, hown, (fun _ h => nomatch h : ∀ w ∈ ([] : List Cond), w.before args s = true)⟩ (k_X6_restore hl9 hF) ⟨gx_callB (n := 0) rfl rfl hlink (gw_49 hV) (gw_1006 hV) (by decide +kernel) ⟨hfr, hlo⟩, gw_1004 hV, gw_1005 hV⟩ (gx_recvX (k := 44) (ci := 8) (T := TX6) hV hZ hw (by decide) rfl rfl) rfl rfl hsz rfl (lv_room hrest) hdg ⟨hc, hs⟩) hw.2.1 (fun _ _ h => h) (fun _ h => h) (fun _ _ h => h) (fun E ce q8 i t H1 locs1 ht _ hp hB _ _ hS h1 h2 h3 => by obtain ⟨rfl, hB⟩ := hB; exact kx i ce q8 H1 locs1 hp (gx_back hw ht hB hS) h1 h2 h3) (fun r _ t H1 locs1 ht _ hp hB _ _ hS => kk r H1 locs1 hp (gx_back hw ht hB hS))
