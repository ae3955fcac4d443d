/-! lay, take out, grow, strength, need: both sides -/
theorem mb_brk_of (c t : Nat) : Int32.ofNat c * 4 + Int32.ofNat t = Int32.ofNat (4 * c + t) ∧ 4 * Int32.ofNat c + Int32.ofNat t = Int32.ofNat (4 * c + t) := by
  constructor
  · rw [show (4 : Int32) = Int32.ofNat 4 from rfl, ← Int32.ofNat_mul, ← Int32.ofNat_add, Nat.mul_comm c 4]
  · rw [show (4 : Int32) = Int32.ofNat 4 from rfl, ← Int32.ofNat_mul, ← Int32.ofNat_add]
theorem mb_div4 : ∀ b, b < 32 → Int32.ofNat b / 4 = Int32.ofNat (b / 4) := by decide +kernel
theorem mb_set_iv {g : Nat → Int32} (hi : mb_iv g) {n : Nat} (hn : n = 3 ∨ n = 4 ∨ n = 5) (x : Int32) : mb_iv (mb_set g n x) := by
  obtain ⟨kc, need, a1, a2, a3, a4, a5, a6, a7, a8, a9, a10⟩ := hi
  refine ⟨kc, need, a1, ?_, a3, a4, ?_, ?_, ?_, fun i hi => ?_, fun i hi => ?_, fun i hi => ?_⟩
  · rw [mb_set0 _ _ (by omega)]; exact a2
  · rw [mb_set0 _ _ (by omega)]; exact a5
  · rw [mb_set0 _ _ (by omega)]; exact a6
  · rw [mb_set0 _ _ (by omega)]; exact a7
  · rw [mb_set0 _ _ (by omega)]; exact a8 i hi
  · rw [mb_set0 _ _ (by omega)]; exact a9 i hi
  · rw [mb_set0 _ _ (by omega)]; exact a10 i hi
theorem mb_seed_iv {g : Nat → Int32} (hi : mb_iv g) {x : Int32} (hx : x = -1 ∨ ∃ p, p < 42 ∧ x = Int32.ofNat p) : mb_iv (mb_set g 1 x) := by
  obtain ⟨kc, need, a1, a2, a3, a4, a5, a6, a7, a8, a9, a10⟩ := hi
  refine ⟨kc, need, a1, ?_, a3, a4, ?_, ?_, ?_, fun i hi => ?_, fun i hi => ?_, fun i hi => ?_⟩
  · rw [mb_set0 _ _ (by omega)]; exact a2
  · rw [mb_set0 _ _ (by omega)]; exact a5
  · rw [mb_set1]; exact hx
  · rw [mb_set0 _ _ (by omega)]; exact a7
  · rw [mb_set0 _ _ (by omega)]; exact a8 i hi
  · rw [mb_set0 _ _ (by omega)]; exact a9 i hi
  · rw [mb_set0 _ _ (by omega)]; exact a10 i hi
theorem mb_brick_iv {g : Nat → Int32} (hi : mb_iv g) {p : Nat} {x : Int32} (hx : x = -1 ∨ ∃ b, b < 4 * mb_kc g ∧ x = Int32.ofNat b) : mb_iv (mb_set g (45 + p) x) := by
  have k2 := hi.kc.2
  obtain ⟨kc, need, a1, a2, a3, a4, a5, a6, a7, a8, a9, a10⟩ := hi
  have k1 : mb_kc g = kc := by
    unfold mb_kc
    rw [a2, mb_tn (by omega)]
  refine ⟨kc, need, a1, ?_, a3, a4, ?_, ?_, ?_, fun i hi => ?_, fun i hi => ?_, fun i hi => ?_⟩
  · rw [mb_set0 _ _ (by omega)]; exact a2
  · rw [mb_set0 _ _ (by omega)]; exact a5
  · rw [mb_set0 _ _ (by omega)]; exact a6
  · rw [mb_set0 _ _ (by omega)]; exact a7
  · rw [mb_set0 _ _ (by omega)]; exact a8 i hi
  · rw [mb_set0 _ _ (by omega)]; exact a9 i hi
  · by_cases h : i = p
    · rw [h, mb_set1]
      rw [k1] at hx
      exact hx
    · rw [mb_set0 _ _ (by omega)]; exact a10 i hi
theorem mb_put5 {I V : gx_F} {k p : Nat} (hp : p < 42) (x : Int32) : f_X5_put k (Int32.ofNat p) x I V = some (gx_u I k 6 (I k 6 + 1), gx_u V (k + 3) p x) := by
  rw [f_X5_put, mb_isPlace hp, Option.bind_some, if_neg (by decide), mb_ck (mb_in hp (by omega)), mb_tn (by omega)]
theorem mb_opLay {I V J U : gx_F} {g : Nat → Int32} (hw : mb_wr I V 0 g) (hU : U 59 = g) (hi : mb_iv g) (hj : mb_jo J) (a b c : Int32) : mb_op g (f_X3_layBrick 0 a b c I V) (f_X7_lay a b c J U) I V J U := by
  rw [f_X3_layBrick, f_X7_lay, mb_isPlace6, mb_isPlace7, mb_isTurn6, mb_in7b, mb_hasKind hw, mb_isKind hU hi]
  simp only [Option.bind_some]
  cases ha : mb_b a 0 41 with
  | false => exact mb_opR0 hj hw 1 0 rfl rfl
  | true =>
    rw [if_neg mb_bt1', if_neg mb_bt1']
    cases hc : mb_b c 0 3 with
    | false => exact mb_opR0 hj hw 1 0 rfl rfl
    | true =>
      rw [if_neg mb_bt1', if_neg mb_bt1']
      cases hb : mb_kb g b with
      | false => exact mb_opR0 hj hw 3 b rfl rfl
      | true =>
        rw [if_neg mb_bt1', if_neg mb_bt1']
        obtain ⟨p, hp0, rfl⟩ := mb_b1 (n := 41) (by decide) ha
        obtain ⟨t, ht, rfl⟩ := mb_b1 (n := 3) (by decide) hc
        obtain ⟨n, hn, rfl⟩ := mb_kb1 hi hb
        obtain ⟨k1, k2⟩ := hi.kc
        obtain ⟨n1, n2, n3⟩ := hi.nd
        have hp : p < 42 := by omega
        have hbr : 4 * n + t < 32 := by omega
        obtain ⟨-, -, -, -, h5, -⟩ := mb_small p (by omega)
        have hf7 : f_X7_isFree (Int32.ofNat p) J U = some (mb_fr g p) := by
          have h : f_X7_isFree (Int32.ofNat p) J U = some (mb_fr (U 59) p) := mb_isFree7 hp
          rw [hU] at h
          exact h
        have hd7 : f_X7_held (Int32.ofNat p) (Int32.ofNat (4 * n + t)) J U = some (mb_hold g p (4 * n + t)) := by
          have h := mb_held (J := J) (U := U) (by rw [hU]; exact hi) hp hbr
          rw [hU] at h
          exact h
        rw [mb_isFree5 hw hi hp, hf7, mb_brickOn hw hp, f_X6_brickOf, (mb_brk_of n t).1, (mb_brk_of n t).2, hd7]
        simp only [Option.bind_some]
        rw [mb_holdFor hw hi hp hbr]
        simp only [Option.bind_some, f_X6_kindOf]
        cases hfr : mb_fr g p with
        | false =>
          rw [if_pos gx_bi_0, if_pos gx_bi_0, mb_ck (mb_in42 p hp).2, h5, hU]
          exact mb_opR0 hj hw 4 _ rfl rfl
        | true =>
          rw [if_neg mb_bt1', if_neg mb_bt1', mb_ck (show gx_in 1 87 = true by decide), show (1 : Int32).toNatClampNeg = 1 from rfl, hU, hw.2.2.2.2.2.1, hw.2.2.2.2.1]
          obtain ⟨J1, U1, e1, kp1⟩ := mb_keeps (src := 59) (Or.inl rfl) U hj
          have r59 : U1 59 = g := kp1.r59.trans hU
          obtain ⟨eh, hh⟩ := mb_hold_of hi (p := p) hbr
          have wp := (hw.num (s := 6) (n := 3) (by unfold mb_sl; omega) (I 0 6 + 1)).brk hp (Int32.ofNat (4 * n + t))
          have hI6 : I 0 6 = g 3 := hw.2.2.2.2.2.2.1
          have ckall : gx_in 1 87 = true ∧ gx_in 3 87 = true ∧ gx_in 2 87 = true := by decide
          rw [e1, mb_put5 hp]
          simp only [Option.bind_some, r59]
          have hivp : mb_iv (mb_set (mb_set g 3 (I 0 6 + 1)) (45 + p) (Int32.ofNat (4 * n + t))) := by
            refine mb_brick_iv (mb_set_iv hi (by omega) _) (Or.inr ⟨4 * n + t, ?_, rfl⟩)
            show 4 * n + t < 4 * (mb_set g 3 (I 0 6 + 1) 0).toNatClampNeg
            rw [mb_set0 _ _ (by omega)]
            show 4 * n + t < 4 * mb_kc g
            omega
          rcases hi.seed with hs | ⟨z, hz, hs⟩
          · rw [hs, if_pos rfl, if_pos (by decide), if_neg (show ¬ (0 : Int32) ≤ -1 by decide), if_neg (show ¬ (1 : Int32) = 0 by decide), mb_ck ckall.1, mb_ck ckall.1, mb_ck (mb_in42 p hp).2, mb_ck ckall.2.1, mb_ck ckall.2.1, if_neg (show ¬ (1 : Int32) = 0 by decide), h5, show (3 : Int32).toNatClampNeg = 3 from rfl]
            refine Or.inr ⟨0, mb_set (mb_set (mb_set g 3 (I 0 6 + 1)) (45 + p) (Int32.ofNat (4 * n + t))) 1 (Int32.ofNat p), ⟨_, _, rfl, by decide, ⟨fun j h1 _ _ => ?_, fun j _ _ h3 _ _ _ => gx_u_ne h3⟩, wp.num (s := 5) (n := 1) (by unfold mb_sl; omega) _, mb_seed_iv hivp (Or.inr ⟨p, hp, rfl⟩)⟩, J1, U1, _, rfl, kp1, ?_, fun k h1 _ => ?_⟩
            · rw [gx_u_ne h1, gx_u_ne h1]
            · rw [mb_set_u, mb_set_u, mb_set_u, mb_set0 _ _ (by omega), mb_set0 _ _ (by omega), r59, hI6, mb_set_c g _ _ (show 1 ≠ 45 + p by omega), mb_set_c _ _ _ (show 1 ≠ 3 by omega), mb_set_c g _ _ (show 45 + p ≠ 3 by omega)]
            · rw [gx_u_ne h1, gx_u_ne h1, gx_u_ne h1]
          · rw [hs, if_neg (mb_nn (by omega)), if_neg (mb_pos (by omega)), n3, eh, mb_ck ckall.2.2, show (2 : Int32).toNatClampNeg = 2 from rfl, n3]
            by_cases hle : mb_nd g ≤ mb_hN g p (4 * n + t)
            · have hle2 := (mb_le (a := mb_nd g) (b := mb_hN g p (4 * n + t)) (by omega) (by omega)).mpr hle
              rw [if_pos hle2, if_pos hle2, mb_ck ckall.1, if_pos (mb_ge0 (by omega)), if_pos True.intro, mb_ck (mb_in42 p hp).2, mb_ck ckall.2.1, mb_ck ckall.2.1, if_pos True.intro, h5, show (3 : Int32).toNatClampNeg = 3 from rfl]
              refine Or.inr ⟨_, mb_set (mb_set g 3 (I 0 6 + 1)) (45 + p) (Int32.ofNat (4 * n + t)), ⟨_, _, rfl, mb_nn (by omega), ⟨fun j h1 _ _ => gx_u_ne h1, fun j _ _ h3 _ _ _ => gx_u_ne h3⟩, wp, hivp⟩, J1, U1, _, rfl, kp1, ?_, fun k h1 _ => ?_⟩
              · rw [mb_set_u, mb_set_u, mb_set0 _ _ (by omega), r59, hI6, mb_set_c g _ _ (show 45 + p ≠ 3 by omega)]
              · rw [gx_u_ne h1, gx_u_ne h1]
            · have hle2 : ¬ Int32.ofNat (mb_nd g) ≤ Int32.ofNat (mb_hN g p (4 * n + t)) := fun h => hle ((mb_le (by omega) (by omega)).mp h)
              rw [if_neg hle2, if_neg hle2, mb_ck ckall.2.2]
              exact mb_opR0 hj hw 5 _ rfl rfl
theorem mb_kp.off {J U U0 J1 U1 : gx_F} (h : mb_kp 59 J U J1 U1) (e : ∀ k, k ≠ 66 → U k = U0 k) : mb_kp 59 J U0 J1 U1 := by
  have e59 := e 59 (by decide)
  have e60 := e 60 (by decide)
  obtain ⟨a1, a2, a3, a4, a5, a6⟩ := h
  refine ⟨a1, a2, a3, fun k h1 h2 => (a4 k h1 h2).trans (e k h2), fun h7 => ?_, fun h7 n hn h6 => ?_⟩
  · rw [← e60]
    exact a5 h7
  · rw [← e60, ← e59]
    exact a6 h7 n hn h6
theorem mb_opTake {I V J U : gx_F} {g : Nat → Int32} (hw : mb_wr I V 0 g) (hU : U 59 = g) (hi : mb_iv g) (hj : mb_jo J) (a : Int32) : mb_op g (f_X3_takeBrick 0 a I V) (f_X7_takeOut a J U) I V J U := by
  rw [f_X3_takeBrick, f_X7_takeOut, mb_isPlace6, mb_isPlace7]
  simp only [Option.bind_some]
  cases ha : mb_b a 0 41 with
  | false => exact mb_opR0 hj hw 1 0 rfl rfl
  | true =>
    rw [if_neg mb_bt1', if_neg mb_bt1']
    obtain ⟨p, hp0, rfl⟩ := mb_b1 (n := 41) (by decide) ha
    have hp : p < 42 := by omega
    obtain ⟨-, -, -, -, h5, -⟩ := mb_small p (by omega)
    have hf7 : f_X7_isFree (Int32.ofNat p) J U = some (mb_fr g p) := by
      have h : f_X7_isFree (Int32.ofNat p) J U = some (mb_fr (U 59) p) := mb_isFree7 hp
      rw [hU] at h
      exact h
    rw [mb_isFree5 hw hi hp, hf7]
    simp only [Option.bind_some]
    rcases hi.br hp with hg | ⟨b, hb, hg⟩
    · rw [mb_free1 hg, if_neg mb_bt1', if_neg mb_bt1']
      exact mb_opR0 hj hw 6 _ rfl rfl
    · rw [mb_free0 (by omega) hg, if_pos gx_bi_0, if_pos gx_bi_0]
      obtain ⟨I1, V1, e5, sc⟩ := mb_falling (by omega) hw hi hp
      obtain ⟨U2, e7, f2⟩ := mb_fallsBy (J := J) hU hi hp
      have hw1 := sc.wr (by omega) hw
      have hU2 : U2 59 = g := (f2 59 (by decide)).trans hU
      rw [e5, e7]
      simp only [Option.bind_some]
      by_cases hfl : mb_fl g p ≤ 0
      · rw [if_pos hfl, if_pos hfl]
        obtain ⟨J1, U1, e1, kp1⟩ := mb_keeps (src := 59) (Or.inl rfl) U2 hj
        have r59 : U1 59 = g := kp1.r59.trans hU2
        have ckall : gx_in 1 87 = true ∧ gx_in 5 87 = true := by decide
        have hI8 : I1 0 8 = g 5 := hw1.2.2.2.2.2.2.2.2
        have hI5 : (gx_u I1 0 8 (I1 0 8 + 1)) 0 5 = g 1 := hw1.2.2.2.2.2.1
        have wp := (hw1.num (s := 8) (n := 5) (by unfold mb_sl; omega) (I1 0 8 + 1)).brk hp (-1)
        have hivp : mb_iv (mb_set (mb_set g 5 (I1 0 8 + 1)) (45 + p) (-1)) := mb_brick_iv (mb_set_iv hi (by omega) _) (Or.inl rfl)
        rw [e1, mb_brickOn hw1 hp, hg]
        simp only [Option.bind_some, f_X6_kindOf]
        rw [f_X5_free, mb_isPlace hp, Option.bind_some, if_neg mb_bt1', mb_ck (mb_in hp (by omega)), hI5, mb_ck (mb_in42 p hp).2, mb_ck ckall.1, show (1 : Int32).toNatClampNeg = 1 from rfl, mb_tn (show p < 2 ^ 31 by omega)]
        simp only [r59]
        by_cases hs : Int32.ofNat p = g 1
        · rw [if_pos hs, if_pos hs, mb_ck ckall.1, mb_ck (mb_in42 p hp).2, mb_ck ckall.2, mb_ck ckall.2, h5, hg, show (5 : Int32).toNatClampNeg = 5 from rfl]
          simp only [Option.bind_some]
          refine Or.inr ⟨_, mb_set (mb_set (mb_set g 5 (I1 0 8 + 1)) (45 + p) (-1)) 1 (-1), ⟨_, _, rfl, ?_, ⟨fun j h1 h2 h3 => ?_, fun j h1 h2 h3 h4 h5 h6 => ?_⟩, wp.num (s := 5) (n := 1) (by unfold mb_sl; omega) _, mb_seed_iv hivp (Or.inl rfl)⟩, J1, U1, _, rfl, kp1.off f2, ?_, fun k h1 _ => ?_⟩
          · rw [mb_div4 b hb]
            exact mb_nn (by omega)
          · rw [gx_u_ne h1, gx_u_ne h1]
            exact sc.1 j h2 h3
          · rw [gx_u_ne h3]
            exact sc.2 j h4 h5 h6
          · rw [mb_set_u, mb_set_u, mb_set_u, mb_set0 _ _ (by omega), mb_set0 _ _ (by omega), r59, hI8, mb_set_c g _ _ (show 1 ≠ 45 + p by omega), mb_set_c _ _ _ (show 1 ≠ 5 by omega), mb_set_c g _ _ (show 45 + p ≠ 5 by omega)]
          · rw [gx_u_ne h1, gx_u_ne h1, gx_u_ne h1]
        · rw [if_neg hs, if_neg hs, mb_ck (mb_in42 p hp).2, mb_ck ckall.2, mb_ck ckall.2, h5, hg, show (5 : Int32).toNatClampNeg = 5 from rfl]
          simp only [Option.bind_some]
          refine Or.inr ⟨_, mb_set (mb_set g 5 (I1 0 8 + 1)) (45 + p) (-1), ⟨_, _, rfl, ?_, ⟨fun j h1 h2 h3 => ?_, fun j h1 h2 h3 h4 h5 h6 => ?_⟩, wp, hivp⟩, J1, U1, _, rfl, kp1.off f2, ?_, fun k h1 _ => ?_⟩
          · rw [mb_div4 b hb]
            exact mb_nn (by omega)
          · rw [gx_u_ne h1]
            exact sc.1 j h2 h3
          · rw [gx_u_ne h3]
            exact sc.2 j h4 h5 h6
          · rw [mb_set_u, mb_set_u, mb_set0 _ _ (by omega), r59, hI8, mb_set_c g _ _ (show 45 + p ≠ 5 by omega)]
          · rw [gx_u_ne h1, gx_u_ne h1]
      · rw [if_neg hfl, if_neg hfl]
        exact mb_opR hj 7 _ (sc.fw 0) hw1 f2 rfl rfl
theorem mb_opGrow {I V J U : gx_F} {g : Nat → Int32} (hw : mb_wr I V 0 g) (hU : U 59 = g) (hi : mb_iv g) (hj : mb_jo J) (a : Int32) : mb_op g (f_X3_growBricks 0 a I V) (f_X7_grow a J U) I V J U := by
  rw [f_X3_growBricks, f_X7_grow, mb_in7b]
  simp only [Option.bind_some]
  unfold mb_b
  by_cases h1 : a < 1
  · rw [if_pos h1, if_pos h1]
    exact mb_opR0 hj hw 1 0 rfl rfl
  · rw [if_neg h1, if_neg h1]
    by_cases h2 : 42 < a
    · rw [if_pos h2, if_neg (Int32.not_le.mpr h2)]
      exact mb_opR0 hj hw 1 0 rfl rfl
    · rw [if_neg h2, if_pos (Int32.not_lt.mp h2), if_neg mb_bt1']
      have h0 : ¬ a < 0 := fun h => h1 (Int32.lt_trans h (by decide))
      obtain ⟨m, hm, rfl⟩ := mb_of h0
      have hm1 : 1 ≤ m := by
        rcases Nat.eq_zero_or_pos m with h | h
        · subst h
          exact absurd (show Int32.ofNat 0 < 1 by decide) h1
        · exact h
      have hm42 : m ≤ 42 := Nat.not_lt.mp (fun h => h2 ((mb_lt (a := 42) (by decide) hm).mpr h))
      obtain ⟨I1, V1, e5, w1, fw1⟩ := mb_letGrow (by omega) hw hi hm42
      obtain ⟨hiv, hle⟩ := mb_grow_iv m g hi
      rw [e5, mb_growsAt hU hi]
      simp only [Option.bind_some]
      cases hf : mb_fi g 42 0 with
      | none =>
        have hgr := mb_grow0 (m := m) hf
        rw [hgr] at w1 e5 ⊢
        obtain ⟨V2, e6, sc2⟩ := mb_stuck5 (by omega) w1 hi
        rw [if_pos (show Int32.ofNat (0, g).1 = 0 from rfl), e6, if_neg (show ¬ 0 ≤ mb_ff none by decide), mb_stuck7 hU hi]
        simp only [Option.bind_some]
        exact mb_opR hj 8 _ (fw1.trans (sc2.fw 0)) (sc2.wr (by omega) w1) (fun _ _ => rfl) rfl rfl
      | some q =>
        obtain ⟨p, b⟩ := q
        obtain ⟨f1, f2, f3, f4⟩ := mb_fi_some 42 0 p b hf
        obtain ⟨J1, U1, e1, kp1⟩ := mb_keeps (src := 59) (Or.inl rfl) U hj
        have r59 : U1 59 = g := kp1.r59.trans hU
        obtain ⟨U2, e7, u59, fu⟩ := mb_growsBy (J := J1) r59 hi hm42
        have hpos : (mb_grow m g).1 ≠ 0 := by
          rw [show m = (m - 1) + 1 by omega, mb_grow1 hf]
          exact Nat.succ_ne_zero _
        rw [if_neg (fun h => hpos ((mb_eq0 (by omega)).mp h)), if_pos (show 0 ≤ mb_ff (some (p, b)) from mb_ge0 (by omega)), e1]
        simp only [Option.bind_some]
        rw [e7]
        simp only [Option.bind_some]
        exact Or.inr ⟨_, _, ⟨I1, V1, rfl, mb_nn (by omega), fw1, w1, hiv⟩, J1, U1, U2, rfl, kp1, u59, fun k h1 _ => fu k h1⟩
theorem mb_b1' {x : Int32} {n : Nat} (hn : n < 2 ^ 31) (h : mb_b x 1 (Int32.ofNat n) = true) : ∃ p, 1 ≤ p ∧ p ≤ n ∧ x = Int32.ofNat p := by
  unfold mb_b at h
  by_cases h1 : x < 1
  · rw [if_pos h1] at h; cases h
  · rw [if_neg h1] at h
    have h0 : ¬ x < 0 := fun h => h1 (Int32.lt_trans h (by decide))
    obtain ⟨p, hp, rfl⟩ := mb_of h0
    have hp1 : 1 ≤ p := by
      rcases Nat.eq_zero_or_pos p with h3 | h3
      · subst h3
        exact absurd (show Int32.ofNat 0 < 1 by decide) h1
      · exact h3
    by_cases h2 : Int32.ofNat n < Int32.ofNat p
    · rw [if_pos h2] at h; cases h
    · exact ⟨p, hp1, Nat.not_lt.mp (fun h3 => h2 ((mb_lt hn hp).mpr h3)), rfl⟩
theorem mb_opNeed {I V J U : gx_F} {g : Nat → Int32} (hw : mb_wr I V 0 g) (hU : U 59 = g) (hi : mb_iv g) (hj : mb_jo J) (a : Int32) : mb_op g (f_X3_setNeed 0 a I V) (f_X7_need a J U) I V J U := by
  rw [f_X3_setNeed, f_X7_need, mb_in7b]
  simp only [Option.bind_some]
  cases hb : mb_b a 1 6 with
  | false =>
    rw [if_pos gx_bi_0]
    unfold mb_b at hb
    by_cases h1 : a < 1
    · rw [if_pos h1]
      exact mb_opR0 hj hw 1 0 rfl rfl
    · rw [if_neg h1] at hb ⊢
      by_cases h2 : 6 < a
      · rw [if_neg (Int32.not_le.mpr h2)]
        exact mb_opR0 hj hw 1 0 rfl rfl
      · rw [if_neg h2] at hb
        cases hb
  | true =>
    have hb2 := hb
    unfold mb_b at hb2
    obtain ⟨n, hn1, hn6, rfl⟩ := mb_b1' (n := 6) (by decide) hb
    have h1 : ¬ Int32.ofNat n < 1 := by
      intro h
      rw [if_pos h] at hb2
      cases hb2
    rw [if_neg mb_bt1', if_neg h1, if_pos (show Int32.ofNat n ≤ 6 from (mb_le (b := 6) (by omega) (by decide)).mpr hn6), mb_ck (show gx_in 2 87 = true by decide), show (2 : Int32).toNatClampNeg = 2 from rfl, hU, hw.2.2.2.2.1]
    by_cases he : g 2 = Int32.ofNat n
    · rw [if_pos he, if_pos he.symm]
      exact mb_opR0 hj hw 9 0 rfl rfl
    · rw [if_neg he, if_neg (show ¬ Int32.ofNat n = g 2 from fun h => he h.symm)]
      obtain ⟨J1, U1, e1, kp1⟩ := mb_keeps (src := 59) (Or.inl rfl) U hj
      have r59 : U1 59 = g := kp1.r59.trans hU
      obtain ⟨n1, n2, n3⟩ := hi.nd
      rw [e1]
      simp only [Option.bind_some, r59, mb_ck (show gx_in 2 87 = true by decide)]
      refine Or.inr ⟨g 2, mb_set g 2 (Int32.ofNat n), ⟨_, _, rfl, by rw [n3]; exact mb_nn (by omega), ⟨fun j h1 _ _ => gx_u_ne h1, fun _ _ _ _ _ _ _ => rfl⟩, hw.num (s := 4) (n := 2) (by unfold mb_sl; omega) _, ?_⟩, J1, U1, _, rfl, kp1, ?_, fun k h1 _ => gx_u_ne h1⟩
      · obtain ⟨kc, need, a1, a2, a3, a4, a5, a6, a7, a8, a9, a10⟩ := hi
        refine ⟨kc, n, a1, ?_, hn1, hn6, mb_set1 _ _ _, ?_, ?_, fun i hi => ?_, fun i hi => ?_, fun i hi => ?_⟩
        · rw [mb_set0 _ _ (by omega)]; exact a2
        · rw [mb_set0 _ _ (by omega)]; exact a6
        · rw [mb_set0 _ _ (by omega)]; exact a7
        · rw [mb_set0 _ _ (by omega)]; exact a8 i hi
        · rw [mb_set0 _ _ (by omega)]; exact a9 i hi
        · rw [mb_set0 _ _ (by omega)]; exact a10 i hi
      · rw [mb_set_u, r59]
theorem mb_opStr {I V J U : gx_F} {g : Nat → Int32} (hw : mb_wr I V 0 g) (hU : U 59 = g) (hi : mb_iv g) (hj : mb_jo J) (a s : Int32) : mb_op g (f_X3_setStrength 0 a s I V) (f_X7_strength a s J U) I V J U := by
  rw [f_X3_setStrength, f_X7_strength, mb_in7b, mb_in7b]
  simp only [Option.bind_some]
  cases hb : mb_b a 1 6 with
  | false =>
    rw [if_pos gx_bi_0]
    unfold mb_b at hb
    by_cases h1 : a < 1
    · rw [if_pos h1]
      exact mb_opR0 hj hw 1 0 rfl rfl
    · rw [if_neg h1] at hb ⊢
      by_cases h2 : 6 < a
      · rw [if_pos h2]
        exact mb_opR0 hj hw 1 0 rfl rfl
      · rw [if_neg h2] at hb
        cases hb
  | true =>
    have hb2 := hb
    unfold mb_b at hb2
    obtain ⟨n, hn1, hn6, rfl⟩ := mb_b1' (n := 6) (by decide) hb
    have h1 : ¬ Int32.ofNat n < 1 := by
      intro h
      rw [if_pos h] at hb2
      cases hb2
    have h6 : ¬ 6 < Int32.ofNat n := by
      intro h
      rw [if_neg h1, if_pos h] at hb2
      cases hb2
    rw [if_neg mb_bt1', if_neg h1, if_neg h6]
    cases hc : mb_b s 0 3 with
    | false =>
      rw [if_pos gx_bi_0]
      unfold mb_b at hc
      by_cases h1 : s < 0
      · rw [if_pos h1]
        exact mb_opR0 hj hw 1 0 rfl rfl
      · rw [if_neg h1] at hc ⊢
        by_cases h2 : 3 < s
        · rw [if_neg (Int32.not_le.mpr h2)]
          exact mb_opR0 hj hw 1 0 rfl rfl
        · rw [if_neg h2] at hc
          cases hc
    | true =>
      obtain ⟨t, ht, rfl⟩ := mb_b1 (n := 3) (by decide) hc
      obtain ⟨q1, q2, q3⟩ := mb_in7 n (by omega)
      rw [if_neg mb_bt1', if_neg (mb_pos (a := t) (by omega)), if_pos (show Int32.ofNat t ≤ 3 from (mb_le (b := 3) (by omega) (by decide)).mpr ht), mb_ck q1, mb_ck q2, q3, hU, mb_tn (show n < 2 ^ 31 by omega), show V (0 + 2) n = g (6 + n) from hw.2.1 n (by omega)]
      by_cases he : g (6 + n) = Int32.ofNat t
      · rw [if_pos he, if_pos he]
        exact mb_opR0 hj hw 9 0 rfl rfl
      · rw [if_neg he, if_neg he]
        obtain ⟨J1, U1, e1, kp1⟩ := mb_keeps (src := 59) (Or.inl rfl) U hj
        have r59 : U1 59 = g := kp1.r59.trans hU
        obtain ⟨x, hx, hgx⟩ := hi.st (i := n) (by omega)
        rw [e1, mb_ck q1]
        simp only [Option.bind_some, mb_ck q2]
        refine Or.inr ⟨g (6 + n), mb_set g (6 + n) (Int32.ofNat t), ⟨_, _, rfl, by rw [hgx]; exact mb_nn (by omega), ⟨fun j _ _ _ => rfl, fun j _ h2 _ _ _ _ => gx_u_ne h2⟩, hw.str (by omega) _, ?_⟩, J1, U1, _, rfl, kp1, ?_, fun k h1 _ => gx_u_ne h1⟩
        · obtain ⟨kc, need, a1, a2, a3, a4, a5, a6, a7, a8, a9, a10⟩ := hi
          refine ⟨kc, need, a1, ?_, a3, a4, ?_, ?_, ?_, fun i hi => ?_, fun i hi => ?_, fun i hi => ?_⟩
          · rw [mb_set0 _ _ (by omega)]; exact a2
          · rw [mb_set0 _ _ (by omega)]; exact a5
          · rw [mb_set0 _ _ (by omega)]; exact a6
          · rw [mb_set0 _ _ (by omega)]; exact a7
          · by_cases h : i = n
            · rw [h, mb_set1]; exact ⟨t, ht, rfl⟩
            · rw [mb_set0 _ _ (by omega)]; exact a8 i hi
          · rw [mb_set0 _ _ (by omega)]; exact a9 i hi
          · rw [mb_set0 _ _ (by omega)]; exact a10 i hi
        · rw [mb_set_u, r59]
