/-! more questions, undo, save, restore, both sides -/
theorem mb_c16 {I V J U : gx_F} (h : mb_R I V J U) : ∃ a, f_X6_errors I V = some a ∧ f_X7_errors J U = some (a, gx_u J 58 9 0, U) ∧ mb_R I V (gx_u J 58 9 0) U :=
  ⟨_, mb_errors6 h.1 h.2.1, mb_errors7 h.2.1, h.sc (mb_sc.refl I V) (fun _ _ => rfl) 0⟩
theorem mb_c27 {I V J U : gx_F} (h : mb_R I V J U) : ∃ a, f_X6_faultPosition I V = some a ∧ f_X7_faultPosition J U = some (a, gx_u J 58 9 0, U) ∧ mb_R I V (gx_u J 58 9 0) U := by
  refine ⟨I 44 10, rfl, ?_, h.sc (mb_sc.refl I V) (fun _ _ => rfl) 0⟩
  rw [h.2.2.2.2.1.2.2.2]
  rfl
/-- the model's number of bricks after growing, and the row as it was -/
theorem mb_c22 {I V J U : gx_F} (h : mb_R I V J U) : mb_EQ (f_X6_growsTo I V) (f_X7_growsTo J U) := by
  have h0 := h
  obtain ⟨hw, hi, hs, sv, rs, tx, ln, h7⟩ := h
  obtain ⟨I1, V1, e1, w4, f1, f2⟩ := mb_copyFrom (I := I) (V := V) (k0 := 4) (k1 := 0) (by decide) (by decide) (by decide) hw
  obtain ⟨I2, V2, e2, w5, fw⟩ := mb_letGrow (M := 42) (by decide) w4 hi (by decide)
  obtain ⟨iv2, -⟩ := mb_grow_iv 42 (U 59) hi
  have e2' : f_X1_letGrow 4 42 I1 V1 = _ := e2
  obtain ⟨U1, m1, a1, a2, a3⟩ := mb_copies (k0 := 59) (k2 := 63) (by decide) (a := 0) (b := 0) (by decide) (by decide) (by decide) (by decide) (gx_u J 58 9 0) U
  have m1' : f_X7_copies 59 0 63 0 (gx_u J 58 9 0) U = some (gx_u J 58 9 0, U1) := m1
  have u59 : U1 59 = U 59 := a3 59 (by decide)
  obtain ⟨U2, m2, b1, b2⟩ := mb_growsBy (J := gx_u J 58 9 0) (M := 42) u59 hi (by decide)
  have m2' : f_X7_growsBy 42 (gx_u J 58 9 0) U1 = _ := m2
  obtain ⟨U3, m3, c1, c2, c3⟩ := mb_copies (k0 := 63) (k2 := 59) (by decide) (a := 0) (b := 0) (by decide) (by decide) (by decide) (by decide) (gx_u J 58 9 0) U2
  have m3' : f_X7_copies 63 0 59 0 (gx_u J 58 9 0) U2 = some (gx_u J 58 9 0, U3) := m3
  have h59 : ∀ j, j < 87 → U3 59 j = U 59 j := by
    intro j hj
    have x1 := c1 j hj
    have x2 := a1 j hj
    rw [Nat.zero_add] at x1 x2
    rw [x1, b2 63 (by decide), x2]
  have fu : ∀ k, k ≠ 59 → k ≠ 63 → U3 k = U k := fun k k1 k2 => (c3 k k1).trans ((b2 k k1).trans (a3 k k2))
  have js : ∀ s, s ≠ 9 → (gx_u J 58 9 0) 58 s = J 58 s := fun s hs => by rw [mb_set_u, mb_set0 _ _ hs]
  have fI : ∀ k, k ≠ 4 → k ≠ 48 → k ≠ 51 → I2 k = I k := fun k k1 k2 k3 => (fw.1 k k1 k2 k3).trans (f1 k k1)
  have fV : ∀ k, k ≠ 5 → k ≠ 6 → k ≠ 7 → k ≠ 49 → k ≠ 50 → k ≠ 52 → V2 k = V k := fun k k1 k2 k3 k4 k5 k6 => (fw.2 k k1 k2 k3 k4 k5 k6).trans (f2 k k1 k2 k3)
  refine ⟨Int32.ofNat (mb_bn (U 59) + (mb_grow 42 (U 59)).1), I2, V2, gx_u J 58 9 0, U3, ?_, ?_, ?_⟩
  · rw [f_X6_growsTo, e1, Option.bind_some]
    show (f_X1_letGrow 4 42 I1 V1).bind _ = _
    rw [e2', Option.bind_some]
    show (f_X5_brickCount 4 I2 V2).bind _ = _
    rw [mb_brickCount w5 iv2, Option.bind_some, mb_bricks_of, mb_bn_grow 42 (U 59) hi]
  · rw [f_X7_growsTo, m1', Option.bind_some]
    show (f_X7_bricks (gx_u J 58 9 0) U1).bind _ = _
    rw [mb_bricks7, Option.bind_some]
    show (f_X7_growsBy 42 (gx_u J 58 9 0) U1).bind _ = _
    rw [m2', Option.bind_some]
    show (f_X7_copies 63 0 59 0 (gx_u J 58 9 0) U2).bind _ = _
    rw [m3', Option.bind_some, u59, mb_bricks_of, Int32.ofNat_add]
  · refine h0.build ?_ (hi.ext h59) (hs.key (fun k k1 k2 => ⟨fI k (by omega) (by omega) (by omega), fV k (by omega) (by omega) (by omega) (by omega) (by omega) (by omega)⟩) (fI 46 (by decide) (by decide) (by decide)) (js 6 (by decide)) (fu 60 (by decide) (by decide))) (fun s _ => by rw [fI 44 (by decide) (by decide) (by decide)]) (fun k k1 k2 => ⟨fI k (by omega) (by omega) (by omega), fV k (by omega) (by omega) (by omega) (by omega) (by omega) (by omega)⟩) (by rw [fI 54 (by decide) (by decide) (by decide)]) (fV 45 (by decide) (by decide) (by decide) (by decide) (by decide) (by decide)) (fV 55 (by decide) (by decide) (by decide) (by decide) (by decide) (by decide)) ⟨fun s _ => js s (by omega), fu 61 (by decide) (by decide), fu 64 (by decide) (by decide), fu 65 (by decide) (by decide)⟩ ?_ ((js 7 (by decide)).trans h7)
    · exact (hw.ext h59).key (fI 0 (by decide) (by decide) (by decide)) (fV 1 (by decide) (by decide) (by decide) (by decide) (by decide) (by decide)) (fV 2 (by decide) (by decide) (by decide) (by decide) (by decide) (by decide)) (fV 3 (by decide) (by decide) (by decide) (by decide) (by decide) (by decide))
    · unfold mb_rs
      rw [fI 53 (by decide) (by decide) (by decide), fI 44 (by decide) (by decide) (by decide), js 10 (by decide), js 11 (by decide), js 12 (by decide), js 15 (by decide)]
      exact rs
/-! rows and columns -/
def mb_its (z a : Int32) (p : Nat) : Bool := if z = 0 then decide (Int32.ofNat p / 7 = a) else decide (gx_rem (Int32.ofNat p) 7 = a)
def mb_inr (g : Nat → Int32) (z a : Int32) (p : Nat) : Nat := if mb_fr g p = true then 0 else if mb_its z a p = true then 1 else 0
theorem mb_iR_L {I V : gx_F} {g : Nat → Int32} (hw : mb_wr I V 0 g) (hi : mb_iv g) (a z : Int32) (K : Int32 → Option (Int32 ⊕ Nat)) : ∀ (m s n : Nat) (c : Int32), s + m = 42 → f_X6_inRow_L1 a z I V (fun c _ => K c) (n + m + 1) c (Int32.ofNat s) = K (c + Int32.ofNat (mb_T (mb_inr g z a) s m)) := by
  intro m
  induction m with
  | zero =>
    intro s n c hm
    have hs : s = 42 := by omega
    subst hs
    rw [f_X6_inRow_L1, if_pos (by decide)]
    exact congrArg K (Int32.add_zero c).symm
  | succ m ih =>
    intro s n c hm
    have hs : s < 42 := by omega
    rw [show n + (m + 1) + 1 = (n + m + 1) + 1 by omega, f_X6_inRow_L1, if_neg (mb_42 s hs), mb_isFree5 hw hi hs]
    simp only [Option.bind_some]
    rw [mb_add1, ih (s + 1) n c (by omega), ih (s + 1) n (c + 1) (by omega), mb_T, Int32.ofNat_add, ← Int32.add_assoc]
    unfold mb_inr mb_its
    cases mb_fr g s with
    | true =>
      rw [if_pos (show true = true from rfl), if_neg mb_bt1', show Int32.ofNat 0 = 0 from rfl, Int32.add_zero]
      by_cases hz : z = 0
      · rw [if_pos hz]
        by_cases h1 : Int32.ofNat s / 7 = a
        · rw [if_pos h1]
        · rw [if_neg h1]
      · rw [if_neg hz]
        by_cases h1 : gx_rem (Int32.ofNat s) 7 = a
        · rw [if_pos h1]
        · rw [if_neg h1]
    | false =>
      rw [if_neg mb_ft, if_pos gx_bi_0]
      by_cases hz : z = 0
      · rw [if_pos hz, if_pos hz]
        by_cases h1 : Int32.ofNat s / 7 = a
        · rw [if_pos h1, decide_eq_true h1, if_pos rfl]
          simp only [hz]
          rfl
        · rw [if_neg h1, decide_eq_false h1, if_neg mb_ft, show Int32.ofNat 0 = 0 from rfl, Int32.add_zero]
      · rw [if_neg hz, if_neg hz]
        by_cases h1 : gx_rem (Int32.ofNat s) 7 = a
        · rw [if_pos h1, decide_eq_true h1, if_pos rfl]
          rfl
        · rw [if_neg h1, decide_eq_false h1, if_neg mb_ft, show Int32.ofNat 0 = 0 from rfl, Int32.add_zero]
theorem mb_iR2 (a z : Int32) (I V : gx_F) (K : Int32 → Int32 → Option (Int32 ⊕ Nat)) : ∀ (n : Nat) (c s : Int32), f_X6_inRow_L2 a z I V K n c s = f_X6_inRow_L1 a z I V K n c s := by
  intro n
  induction n with
  | zero => intro c s; rfl
  | succ n ih =>
    intro c s
    rw [f_X6_inRow_L2, f_X6_inRow_L1]
    simp only [ih]
theorem mb_iR7_L {J U : gx_F} (a z : Int32) (b : Bool) (K : Int32 → Option (Int32 × gx_F × gx_F)) : ∀ (m s n : Nat) (c : Int32), s + m = 42 → f_X7_inRow_L2 a z (b, J, U) (fun c _ => K c) (n + m + 1) c (Int32.ofNat s) = K (c + Int32.ofNat (mb_T (mb_inr (U 59) z a) s m)) := by
  intro m
  induction m with
  | zero =>
    intro s n c hm
    have hs : s = 42 := by omega
    subst hs
    rw [f_X7_inRow_L2, if_pos (by decide)]
    exact congrArg K (Int32.add_zero c).symm
  | succ m ih =>
    intro s n c hm
    have hs : s < 42 := by omega
    have hf : f_X7_isFree (Int32.ofNat s) (b, J, U).2.1 (b, J, U).2.2 = some (mb_fr (U 59) s) := mb_isFree7 hs
    rw [show n + (m + 1) + 1 = (n + m + 1) + 1 by omega, f_X7_inRow_L2, if_neg (mb_42 s hs), hf]
    simp only [Option.bind_some]
    rw [mb_add1, Int32.add_zero, ih (s + 1) n c (by omega), ih (s + 1) n (c + 1) (by omega), mb_T, Int32.ofNat_add, ← Int32.add_assoc]
    unfold mb_inr mb_its
    cases mb_fr (U 59) s with
    | true =>
      rw [if_pos (show true = true from rfl), if_neg mb_bt1', show Int32.ofNat 0 = 0 from rfl, Int32.add_zero]
    | false =>
      rw [if_neg mb_ft, if_pos gx_bi_0]
      by_cases hz : z = 0
      · rw [if_pos hz, if_pos hz]
        by_cases h1 : Int32.ofNat s / 7 = a
        · rw [if_pos h1, decide_eq_true h1, if_pos rfl]
          simp only [hz]
          rfl
        · rw [if_neg h1, decide_eq_false h1, if_neg mb_ft, show Int32.ofNat 0 = 0 from rfl, Int32.add_zero]
      · rw [if_neg hz, if_neg hz]
        by_cases h1 : gx_rem (Int32.ofNat s) 7 = a
        · rw [if_pos h1, decide_eq_true h1, if_pos rfl]
          rfl
        · rw [if_neg h1, decide_eq_false h1, if_neg mb_ft, show Int32.ofNat 0 = 0 from rfl, Int32.add_zero]
theorem mb_iR74 (a z : Int32) (r : Bool × gx_F × gx_F) (K : Int32 → Int32 → Option (Int32 × gx_F × gx_F)) : ∀ (n : Nat) (c s : Int32), f_X7_inRow_L4 a z r K n c s = f_X7_inRow_L2 a z r K n c s := by
  intro n
  induction n with
  | zero => intro c s; rfl
  | succ n ih =>
    intro c s
    rw [f_X7_inRow_L4, f_X7_inRow_L2]
    simp only [ih]
theorem mb_bcase {x lo hi : Int32} : mb_b x lo hi = if x < lo then false else if hi < x then false else true := rfl
theorem mb_c23 {I V J U : gx_F} (h : mb_R I V J U) (a z : Int32) (o : Int64) : mb_AN (f_L_inRow a z I V o) (f_X7_inRow a z J U) := by
  have h0 := h
  obtain ⟨hw, hi, -⟩ := h
  have c5 := mb_iR_L hw hi a z (fun c => some (.inl c)) 42 0 957 0 rfl
  have c7 := mb_iR7_L (J := gx_u J 58 9 0) (U := U) a z false (fun c => some (c, gx_u J 58 9 0, U)) 42 0 957 0 rfl
  have c5' : f_X6_inRow_L1 a z I V (fun c _ => some (.inl c)) 1000 0 0 = _ := c5
  have c7' : f_X7_inRow_L2 a z (false, gx_u J 58 9 0, U) (fun c _ => some (c, gx_u J 58 9 0, U)) 1000 0 0 = _ := c7
  rw [f_L_inRow, f_X6_inRow, f_X7_inRow, mb_in7b, mb_in7b, mb_fails0, mb_fails1]
  simp only [Option.bind_some, mb_iR2, mb_iR74]
  have l6 : (6 : Int32) ≤ a ↔ (5 : Int32) < a := mb_le_lt a (n := 5) (by decide)
  have l7 : (7 : Int32) ≤ a ↔ (6 : Int32) < a := mb_le_lt a (n := 6) (by decide)
  rw [mb_bcase, mb_bcase]
  by_cases h1 : a < 0
  · rw [if_pos h1, if_pos h1, if_pos h1]
    by_cases hz : z = 0
    · rw [if_pos hz]
      exact mb_ANs h0 rfl rfl (fun h => absurd h (by decide))
    · rw [if_neg hz]
      exact mb_ANs h0 rfl rfl (fun h => absurd h (by decide))
  · rw [if_neg h1, if_neg h1, if_neg h1]
    by_cases hz : z = 0
    · rw [if_pos hz, if_pos hz]
      by_cases h2 : 5 < a
      · rw [if_pos h2, if_neg (Int32.not_lt.mpr (l6.mpr h2))]
        exact mb_ANs h0 rfl rfl (fun h => absurd h (by decide))
      · rw [if_neg h2, if_pos (Int32.not_le.mp (fun h3 => h2 (l6.mp h3))), if_neg mb_bt1', c5', if_pos gx_bi_0, c7']
        exact mb_ANs h0 rfl rfl (fun _ => rfl)
    · rw [if_neg hz, if_neg hz]
      by_cases h2 : 6 < a
      · rw [if_pos h2, if_neg (Int32.not_lt.mpr (l7.mpr h2))]
        exact mb_ANs h0 rfl rfl (fun h => absurd h (by decide))
      · rw [if_neg h2, if_pos (Int32.not_le.mp (fun h3 => h2 (l7.mp h3))), if_neg mb_bt1', c5', if_pos gx_bi_0, c7']
        exact mb_ANs h0 rfl rfl (fun _ => rfl)
theorem mb_c24 {I V J U : gx_F} (h : mb_R I V J U) (a : Int32) (o : Int64) : mb_AN (f_L_weakest a I V o) (f_X7_weakest a J U) := by
  have h0 := h
  obtain ⟨hw, hi, -⟩ := h
  rw [f_L_weakest, f_X6_weakest]
  rcases mb_weakest (J := J) hw hi a with ⟨p, hp, e1, e2⟩ | ⟨e1, e2⟩
  · rw [e1, e2]
    simp only [Option.bind_some]
    rw [if_neg (mb_nn (by omega))]
    exact mb_ANs h0 rfl rfl (fun _ => rfl)
  · rw [e1, e2]
    exact mb_ANs h0 rfl rfl (fun h => absurd h (by decide))
theorem mb_chr (x : Int32) : gx_chr (gx_chr x) = gx_chr x := by
  have h : Value.int (gx_chr (gx_chr x)) = Value.int (gx_chr x) := gx_narc x
  injection h
theorem mb_i2c (x : Int32) : gx_i2c x = gx_chr x := by
  have h1 : gx_chr x = x.toUInt32.toUInt16.toUInt32.toInt32 := rfl
  rw [h1]
  unfold gx_i2c
  simp
theorem mb_c25 {I V J U : gx_F} (h : mb_R I V J U) (x : Int32) (o : Int64) : mb_AN (f_L_append (gx_i2c x) I V o) (f_X7_append (gx_i2c x) J U) := by
  have h0 := h
  obtain ⟨hw, hi, hs, sv, rs, ⟨n, t1, t2, t3, t4⟩, ln, h7⟩ := h
  rw [f_L_append, f_X6_append, f_X4_isFull, f_X7_append, mb_fails0, mb_fails1, t2, t3]
  simp only [Option.bind_some]
  by_cases h60 : n = 60
  · subst h60
    exact mb_ANs h0 rfl rfl (fun h => absurd h (by decide))
  · have hlt : Int32.ofNat n < 60 := (mb_lt (b := 60) (by omega) (by decide)).mpr (by omega)
    rw [if_pos hlt, if_neg (show ¬ Int32.ofNat n = 60 from fun h => h60 ((mb_eq (b := 60) (by omega) (by decide)).mp h)), if_pos gx_bi_0]
    simp only [Option.bind_some]
    have e5 : f_X4_add (gx_i2c x) I V = some (Int32.ofNat (n + 1), gx_u I 54 4 (Int32.ofNat (n + 1)), gx_u V 55 n (gx_i2c x)) := by
      rw [f_X4_add, f_X4_isFull, t2, if_pos hlt, Option.bind_some, if_pos gx_bi_0, mb_ck (mb_in (by omega) (by omega)), mb_tn (by omega), mb_add1]
      rfl
    have j14 : (gx_u J 58 9 0) 58 14 = Int32.ofNat n := t3
    rw [if_pos gx_bi_0, e5, j14, mb_ck (mb_in (by omega) (by omega)), mb_tn (by omega), mb_add1]
    refine ⟨0, gx_u I 54 4 (Int32.ofNat (n + 1)), gx_u V 55 n (gx_i2c x), (Int32.ofNat (n + 1)).toInt64, Int32.ofNat (n + 1), gx_u (gx_u J 58 9 0) 58 14 (Int32.ofNat (n + 1)), gx_u U 64 n (gx_i2c x), rfl, rfl, rfl, fun _ => rfl, ?_⟩
    have fI : ∀ k, k ≠ 54 → (gx_u I 54 4 (Int32.ofNat (n + 1))) k = I k := fun k hk => gx_u_ne hk
    have fV : ∀ k, k ≠ 55 → (gx_u V 55 n (gx_i2c x)) k = V k := fun k hk => gx_u_ne hk
    have js : ∀ s, s ≠ 9 → s ≠ 14 → (gx_u (gx_u J 58 9 0) 58 14 (Int32.ofNat (n + 1))) 58 s = J 58 s := fun s s1 s2 => by
      rw [mb_set_u, mb_set0 _ _ s2, mb_set_u, mb_set0 _ _ s1]
    have fU : ∀ k, k ≠ 64 → (gx_u U 64 n (gx_i2c x)) k = U k := fun k hk => gx_u_ne hk
    refine ⟨?_, hi, hs.key (fun k k1 k2 => ⟨fI k (by omega), fV k (by omega)⟩) (fI 46 (by decide)) (js 6 (by decide) (by decide)) (fU 60 (by decide)), ?_, ?_, ⟨n + 1, by omega, rfl, rfl, fun i hi2 => ?_⟩, ?_, (js 7 (by decide) (by decide)).trans h7⟩
    · exact hw.key (fI 0 (by decide)) (fV 1 (by decide)) (fV 2 (by decide)) (fV 3 (by decide))
    · unfold mb_sv
      rw [fI 44 (by decide), js 5 (by decide) (by decide), fU 61 (by decide)]
      rcases sv with h | ⟨a, b, c, d⟩
      · exact Or.inl h
      · exact Or.inr ⟨a, b, c.key (fI 8 (by decide)) (fV 9 (by decide)) (fV 10 (by decide)) (fV 11 (by decide)), d⟩
    · unfold mb_rs
      rw [fI 53 (by decide), fI 44 (by decide), js 10 (by decide) (by decide), js 11 (by decide) (by decide), js 12 (by decide) (by decide), js 15 (by decide) (by decide)]
      exact rs
    · rw [mb_set_u, mb_set_u]
      by_cases e : i = n
      · rw [e, mb_set1, mb_set1]
        refine ⟨rfl, ?_⟩
        rw [mb_i2c, mb_chr]
      · rw [mb_set0 _ _ e, mb_set0 _ _ e]
        exact t4 i (by omega)
    · unfold mb_ln
      rw [fI 44 (by decide), fV 45 (by decide), js 17 (by decide) (by decide), fU 65 (by decide)]
      exact ln
theorem mb_c28 {I V J U : gx_F} (h : mb_R I V J U) (a : Int32) (o : Int64) : mb_AN (f_L_reason a I V o) (f_X7_reason a J U) := by
  have h0 := h
  obtain ⟨hw, hi, hs, sv, ⟨r1, r2, r3, r4⟩, tx, ln, h7⟩ := h
  rw [f_L_reason, f_X6_reason, f_X7_reason, mb_in7b, mb_fails0, mb_fails1, mb_fails2, r1, r2, r3]
  simp only [Option.bind_some]
  rw [mb_bcase]
  by_cases h1 : a < 0
  · rw [if_pos h1, if_pos h1]
    exact mb_ANs h0 rfl rfl (fun h => absurd h (by decide))
  · rw [if_neg h1, if_neg h1]
    by_cases h2 : 2 < a
    · rw [if_pos h2, if_neg (Int32.not_le.mpr h2)]
      exact mb_ANs h0 rfl rfl (fun h => absurd h (by decide))
    · rw [if_neg h2, if_pos (Int32.not_lt.mp h2), if_neg mb_bt1']
      by_cases h3 : J 58 10 = 0
      · rw [if_pos h3, if_pos h3]
        exact mb_ANs h0 rfl rfl (fun h => absurd h (by decide))
      · rw [if_neg h3, if_neg h3, if_pos gx_bi_0]
        by_cases h4 : a = 0
        · rw [if_pos h4, if_pos h4]
          exact mb_ANs h0 rfl rfl (fun _ => rfl)
        · rw [if_neg h4, if_neg h4]
          by_cases h5 : a = 1
          · rw [if_pos h5, if_pos h5]
            exact mb_ANs h0 rfl rfl (fun _ => rfl)
          · rw [if_neg h5, if_neg h5]
            exact mb_ANs h0 rfl rfl (fun _ => rfl)
theorem mb_c30 {I V J U : gx_F} (h : mb_R I V J U) (a : Int32) (o : Int64) : mb_AN (f_L_character a I V o) (f_X7_character a J U) := by
  have h0 := h
  obtain ⟨hw, hi, hs, sv, rs, tx, ⟨n, l1, l2, l3, l4⟩, h7⟩ := h
  rw [f_L_character, f_X6_character, f_X7_character, mb_in7b, mb_fails0, mb_fails1, l2, l3]
  simp only [Option.bind_some]
  rw [mb_bcase]
  by_cases h1 : a < 0
  · rw [if_pos h1, if_pos h1]
    exact mb_ANs h0 rfl rfl (fun h => absurd h (by decide))
  · rw [if_neg h1, if_neg h1]
    obtain ⟨p, hp, rfl⟩ := mb_of h1
    by_cases h2 : p < n
    · have hle : ¬ Int32.ofNat n - 1 < Int32.ofNat p := by
        rw [mb_sub1 (by omega)]
        exact fun h => absurd ((mb_lt (by omega) hp).mp h) (by omega)
      rw [if_neg hle, if_pos ((mb_lt hp (by omega)).mpr h2), mb_ck (mb_in (by omega) hp), mb_tn hp, if_neg mb_bt1', if_pos gx_bi_0, mb_ck (mb_in (by omega) hp), l4 p h2]
      exact mb_ANs h0 rfl rfl (fun _ => rfl)
    · have hle : Int32.ofNat n - 1 < Int32.ofNat p := by
        by_cases hn : n = 0
        · rw [hn]
          exact Int32.lt_of_lt_of_le (show Int32.ofNat 0 - 1 < 0 by decide) (mb_ge0 hp)
        · rw [mb_sub1 (by omega)]
          exact (mb_lt (by omega) hp).mpr (by omega)
      rw [if_pos hle, if_neg (fun h => h2 ((mb_lt hp (by omega)).mp h))]
      exact mb_ANs h0 rfl rfl (fun h => absurd h (by decide))
