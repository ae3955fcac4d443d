/-! a row of the wall as a text, both sides -/
def mb_lw (I V J U : gx_F) (n : Nat) : Prop := I 44 12 = Int32.ofNat n ∧ J 58 17 = Int32.ofNat n ∧ ∀ i, i < n → V 45 i = U 65 i
def mb_lf (I V I' V' : gx_F) : Prop := (∀ k, k ≠ 44 → I' k = I k) ∧ (∀ s, s ≠ 12 → I' 44 s = I 44 s) ∧ ∀ k, k ≠ 45 → V' k = V k
def mb_lm (J U J' U' : gx_F) : Prop := (∀ s, s ≠ 17 → J' 58 s = J 58 s) ∧ ∀ k, k ≠ 65 → U' k = U k
theorem mb_lf.refl (I V : gx_F) : mb_lf I V I V := ⟨fun _ _ => rfl, fun _ _ => rfl, fun _ _ => rfl⟩
theorem mb_lm.refl (J U : gx_F) : mb_lm J U J U := ⟨fun _ _ => rfl, fun _ _ => rfl⟩
theorem mb_lf.trans {I V I' V' I2 V2 : gx_F} (h : mb_lf I V I' V') (h2 : mb_lf I' V' I2 V2) : mb_lf I V I2 V2 := ⟨fun k a => (h2.1 k a).trans (h.1 k a), fun k a => (h2.2.1 k a).trans (h.2.1 k a), fun k a => (h2.2.2 k a).trans (h.2.2 k a)⟩
theorem mb_lm.trans {I V I' V' I2 V2 : gx_F} (h : mb_lm I V I' V') (h2 : mb_lm I' V' I2 V2) : mb_lm I V I2 V2 := ⟨fun k a => (h2.1 k a).trans (h.1 k a), fun k a => (h2.2 k a).trans (h.2 k a)⟩
theorem mb_28 : ∀ n, n < 28 → ¬ (28 : Int32) ≤ Int32.ofNat n := by decide +kernel
theorem mb_sign {I V J U : gx_F} {n : Nat} (h : mb_lw I V J U n) (hn : n < 28) (x : Int32) : f_X6_writeSign (gx_i2c x) I V = some (gx_u I 44 12 (Int32.ofNat (n + 1)), gx_u V 45 n (gx_i2c x)) ∧ f_X7_writes x J U = some (gx_u J 58 17 (Int32.ofNat (n + 1)), gx_u U 65 n (gx_i2c x)) ∧ mb_lw (gx_u I 44 12 (Int32.ofNat (n + 1))) (gx_u V 45 n (gx_i2c x)) (gx_u J 58 17 (Int32.ofNat (n + 1))) (gx_u U 65 n (gx_i2c x)) (n + 1) ∧ mb_lf I V (gx_u I 44 12 (Int32.ofNat (n + 1))) (gx_u V 45 n (gx_i2c x)) ∧ mb_lm J U (gx_u J 58 17 (Int32.ofNat (n + 1))) (gx_u U 65 n (gx_i2c x)) := by
  obtain ⟨h1, h2, h3⟩ := h
  refine ⟨?_, ?_, ⟨rfl, rfl, fun i hi => ?_⟩, ⟨fun k hk => gx_u_ne hk, fun s hs => ?_, fun k hk => gx_u_ne hk⟩, fun s hs => ?_, fun k hk => gx_u_ne hk⟩
  · rw [f_X6_writeSign, h1, if_neg (mb_28 n hn), mb_ck (mb_in hn (by omega)), mb_tn (by omega), mb_add1]
  · rw [f_X7_writes, h2, mb_ck (mb_in (by omega) (by omega)), mb_tn (by omega), mb_add1]
  · rw [mb_set_u, mb_set_u]
    by_cases e : i = n
    · rw [e, mb_set1, mb_set1]
    · rw [mb_set0 _ _ e, mb_set0 _ _ e]
      exact h3 i (by omega)
  · rw [mb_set_u, mb_set0 _ _ hs]
  · rw [mb_set_u, mb_set0 _ _ hs]
theorem mb_rem4 : ∀ b, b < 32 → gx_rem (Int32.ofNat b) 4 = Int32.ofNat (b % 4) := by decide +kernel
theorem mb_stars {g : Nat → Int32} {p b : Nat} (hp : p < 42) (hb : b < 32) (hg : g (45 + p) = Int32.ofNat b) (K : gx_F → gx_F → Option (gx_F × gx_F)) (K' : gx_F → gx_F → Option (Int32 × gx_F × gx_F)) : ∀ (m q n n1 n2 : Nat) (I V J U : gx_F), q + m = b % 4 → n + m ≤ 28 → mb_lw I V J U n → U 59 = g →
    ∃ I' V' J' U', f_X6_writePlace_L1 (Int32.ofNat b) (fun _ I V => K I V) (n1 + m + 1) (Int32.ofNat q) I V = K I' V' ∧ f_X7_line_L5 (Int32.ofNat p) (fun _ J U => K' J U) (n2 + m + 1) (Int32.ofNat q) J U = K' J' U' ∧ mb_lw I' V' J' U' (n + m) ∧ mb_lf I V I' V' ∧ mb_lm J U J' U' := by
  obtain ⟨-, -, -, -, h5, -⟩ := mb_small p (by omega)
  intro m
  induction m with
  | zero =>
    intro q n n1 n2 I V J U hq hn h hU
    have hf : f_X7_isFree (Int32.ofNat p) J U = some (mb_fr (U 59) p) := mb_isFree7 hp
    refine ⟨I, V, J, U, ?_, ?_, h, mb_lf.refl I V, mb_lm.refl J U⟩
    · rw [f_X6_writePlace_L1, f_X6_turnOf, Option.bind_some, mb_rem4 b hb, if_pos ((mb_le (by omega) (by omega)).mpr (by omega))]
    · rw [f_X7_line_L5, hf, Option.bind_some, hU, mb_free0 (by omega) hg, if_pos gx_bi_0, mb_ck (mb_in42 p hp).2, h5, hg, mb_rem4 b hb, if_pos ((mb_le (by omega) (by omega)).mpr (by omega))]
  | succ m ih =>
    intro q n n1 n2 I V J U hq hn h hU
    have hf : f_X7_isFree (Int32.ofNat p) J U = some (mb_fr (U 59) p) := mb_isFree7 hp
    obtain ⟨s1, s2, s3, s4, s5⟩ := mb_sign h (by omega) 42
    have s1' : f_X6_writeSign 42 I V = _ := s1
    obtain ⟨I', V', J', U', e1, e2, e3, e4, e5⟩ := ih (q + 1) (n + 1) n1 n2 _ _ _ _ (by omega) (by omega) s3 ((s5.2 59 (by decide)).trans hU)
    refine ⟨I', V', J', U', ?_, ?_, ?_, s4.trans e4, s5.trans e5⟩
    · rw [show n1 + (m + 1) + 1 = (n1 + m + 1) + 1 by omega, f_X6_writePlace_L1, f_X6_turnOf, Option.bind_some, mb_rem4 b hb, if_neg (fun h => absurd ((mb_le (by omega) (by omega)).mp h) (by omega)), s1', Option.bind_some, mb_add1]
      exact e1
    · rw [show n2 + (m + 1) + 1 = (n2 + m + 1) + 1 by omega, f_X7_line_L5, hf, Option.bind_some, hU, mb_free0 (by omega) hg, if_pos gx_bi_0, mb_ck (mb_in42 p hp).2, h5, hg, mb_rem4 b hb, if_neg (fun h => absurd ((mb_le (by omega) (by omega)).mp h) (by omega)), s2, Option.bind_some, mb_add1]
      exact e2
    · rw [show n + (m + 1) = n + 1 + m by omega]
      exact e3
theorem mb_lf.wr {I V I' V' : gx_F} (h : mb_lf I V I' V') {g : Nat → Int32} (hw : mb_wr I V 0 g) : mb_wr I' V' 0 g :=
  hw.key (h.1 0 (by decide)) (h.2.2 1 (by decide)) (h.2.2 2 (by decide)) (h.2.2 3 (by decide))
theorem mb_rc : ∀ r, r < 6 → ∀ c, c < 7 → Int32.ofNat r * 7 + Int32.ofNat c = Int32.ofNat (7 * r + c) ∧ ¬ 7 * Int32.ofNat r + 7 ≤ Int32.ofNat (7 * r + c) := by decide +kernel
theorem mb_rc7 : ∀ r, r < 6 → 7 * Int32.ofNat r + 7 ≤ Int32.ofNat (7 * r + 7) := by decide +kernel
theorem mb_7 : ∀ c, c < 7 → ¬ (7 : Int32) ≤ Int32.ofNat c := by decide +kernel
theorem mb_line_L {g : Nat → Int32} (hi : mb_iv g) {r : Nat} (hr : r < 6) (K : gx_F → gx_F → Option ((Int32 ⊕ Nat) × gx_F × gx_F)) (K' : gx_F → gx_F → Option (Int32 × gx_F × gx_F)) : ∀ (m c n n1 n2 : Nat) (I V J U : gx_F), c + m = 7 → n ≤ 4 * c → mb_lw I V J U n → mb_wr I V 0 g → U 59 = g →
    ∃ I' V' J' U' n', f_X6_line_L1 (Int32.ofNat r) (fun _ I V => K I V) (n1 + m + 1) (Int32.ofNat c) I V = K I' V' ∧ f_X7_line_L4 (Int32.ofNat r) (fun _ J U => K' J U) (n2 + m + 1) (Int32.ofNat (7 * r + c)) J U = K' J' U' ∧ n' ≤ 28 ∧ mb_lw I' V' J' U' n' ∧ mb_lf I V I' V' ∧ mb_lm J U J' U' := by
  intro m
  induction m with
  | zero =>
    intro c n n1 n2 I V J U hc hn h hw hU
    have hs : c = 7 := by omega
    subst hs
    refine ⟨I, V, J, U, n, ?_, ?_, by omega, h, mb_lf.refl I V, mb_lm.refl J U⟩
    · rw [f_X6_line_L1, if_pos (by decide)]
    · rw [f_X7_line_L4, if_pos (mb_rc7 r hr)]
  | succ m ih =>
    intro c n n1 n2 I V J U hc hn h hw hU
    have hc7 : c < 7 := by omega
    have hp : 7 * r + c < 42 := by omega
    obtain ⟨-, -, -, -, h5, -⟩ := mb_small (7 * r + c) (by omega)
    obtain ⟨q1, q2⟩ := mb_rc r hr c hc7
    have hf : f_X7_isFree (Int32.ofNat (7 * r + c)) J U = some (mb_fr (U 59) (7 * r + c)) := mb_isFree7 hp
    rw [hU] at hf
    rcases hi.br hp with hg | ⟨b, hb, hg⟩
    · obtain ⟨s1, s2, s3, s4, s5⟩ := mb_sign h (by omega) 46
      have s1' : f_X6_writeSign 46 I V = _ := s1
      have hf2 : f_X7_isFree (Int32.ofNat (7 * r + c)) (gx_u J 58 17 (Int32.ofNat (n + 1))) (gx_u U 65 n (gx_i2c 46)) = some (mb_fr ((gx_u U 65 n (gx_i2c 46)) 59) (7 * r + c)) := mb_isFree7 hp
      rw [gx_u_ne (show (59 : Nat) ≠ 65 by decide), hU, mb_free1 hg] at hf2
      obtain ⟨I', V', J', U', n', e1, e2, e3, e4, e5, e6⟩ := ih (c + 1) (n + 1) n1 n2 _ _ _ _ (by omega) (by omega) s3 (s4.wr hw) ((s5.2 59 (by decide)).trans hU)
      refine ⟨I', V', J', U', n', ?_, ?_, e3, e4, s4.trans e5, s5.trans e6⟩
      · rw [show n1 + (m + 1) + 1 = (n1 + m + 1) + 1 by omega, f_X6_line_L1, if_neg (mb_7 c hc7), q1, mb_brickOn hw hp, hg, Option.bind_some, f_X6_writePlace, if_pos rfl, s1', Option.bind_some, Option.bind_some, mb_add1]
        exact e1
      · rw [show n2 + (m + 1) + 1 = (n2 + m + 1) + 1 by omega, f_X7_line_L4, if_neg q2, hf, Option.bind_some, mb_free1 hg, if_neg mb_bt1', s2, Option.bind_some, f_X7_line_L6, hf2, Option.bind_some, if_neg mb_bt1', mb_add1, show 7 * r + c + 1 = 7 * r + (c + 1) by omega]
        exact e2
    · obtain ⟨s1, s2, s3, s4, s5⟩ := mb_sign h (by omega) (48 + Int32.ofNat b / 4)
      have hb4 : b % 4 ≤ 3 := by omega
      obtain ⟨I1, V1, J1, U1, t1, t2, t3, t4, t5⟩ := mb_stars hp hb hg (fun I V => some (I, V)) (fun J U => f_X7_line_L4 (Int32.ofNat r) (fun _ J U => K' J U) (n2 + m + 1) (Int32.ofNat (7 * r + c) + 1) J U) (b % 4) 0 (n + 1) (999 - b % 4) (999 - b % 4) _ _ _ _ (by omega) (by omega) s3 ((s5.2 59 (by decide)).trans hU)
      rw [show 999 - b % 4 + b % 4 + 1 = 1000 by omega] at t1 t2
      have s6 := s4.trans t4
      have s7 := s5.trans t5
      obtain ⟨I', V', J', U', n', e1, e2, e3, e4, e5, e6⟩ := ih (c + 1) (n + 1 + b % 4) n1 n2 _ _ _ _ (by omega) (by omega) t3 (s6.wr hw) ((s7.2 59 (by decide)).trans hU)
      refine ⟨I', V', J', U', n', ?_, ?_, e3, e4, s6.trans e5, s7.trans e6⟩
      · rw [show n1 + (m + 1) + 1 = (n1 + m + 1) + 1 by omega, f_X6_line_L1, if_neg (mb_7 c hc7), q1, mb_brickOn hw hp, hg, Option.bind_some, f_X6_writePlace, if_neg (mb_nn (by omega)), f_X6_kindOf, Option.bind_some, s1, Option.bind_some]
        rw [show (f_X6_writePlace_L1 (Int32.ofNat b) (fun uv_8 uI_9 uV_10 => (some (uI_9, uV_10))) 1000 0 (gx_u I 44 12 (Int32.ofNat (n + 1)), gx_u V 45 n (gx_i2c (48 + Int32.ofNat b / 4))).1 (gx_u I 44 12 (Int32.ofNat (n + 1)), gx_u V 45 n (gx_i2c (48 + Int32.ofNat b / 4))).2) = some (I1, V1) from t1, Option.bind_some, mb_add1]
        exact e1
      · rw [show n2 + (m + 1) + 1 = (n2 + m + 1) + 1 by omega, f_X7_line_L4, if_neg q2, hf, Option.bind_some, mb_free0 (by omega) hg, if_pos gx_bi_0, mb_ck (mb_in42 _ hp).2, h5, hU, hg, s2, Option.bind_some]
        refine Eq.trans t2 ?_
        show f_X7_line_L4 (Int32.ofNat r) (fun _ J U => K' J U) (n2 + m + 1) (Int32.ofNat (7 * r + c) + 1) J1 U1 = _
        rw [mb_add1, show 7 * r + c + 1 = 7 * r + (c + 1) by omega]
        exact e2
theorem mb_c29 {I V J U : gx_F} (h : mb_R I V J U) (a : Int32) (o : Int64) : mb_AN (f_L_line a I V o) (f_X7_line a J U) := by
  have h0 := h
  obtain ⟨hw, hi, hs, sv, rs, tx, ln, h7⟩ := h
  rw [f_L_line, f_X6_line, f_X7_line, mb_in7b, mb_fails0, mb_fails1]
  simp only [Option.bind_some]
  have l6 : (6 : Int32) ≤ a ↔ (5 : Int32) < a := mb_le_lt a (n := 5) (by decide)
  rw [mb_bcase]
  by_cases h1 : a < 0
  · rw [if_pos h1, if_pos h1]
    exact mb_ANs h0 rfl rfl (fun h => absurd h (by decide))
  · rw [if_neg h1, if_neg h1]
    by_cases h2 : 5 < a
    · rw [if_pos h2, if_neg (Int32.not_lt.mpr (l6.mpr h2))]
      exact mb_ANs h0 rfl rfl (fun h => absurd h (by decide))
    · obtain ⟨r, hr, rfl⟩ := mb_of h1
      have hr6 : r < 6 := by
        have := Nat.not_lt.mp (fun h3 => h2 ((mb_lt (a := 5) (by decide) hr).mpr h3))
        omega
      rw [if_neg h2, if_pos (Int32.not_le.mp (fun h3 => h2 (l6.mp h3))), if_neg mb_bt1', if_pos gx_bi_0]
      have hlw : mb_lw (gx_u I 44 12 0) V (gx_u (gx_u J 58 9 0) 58 17 0) U 0 := ⟨rfl, rfl, fun i hi => by omega⟩
      have hw1 : mb_wr (gx_u I 44 12 0) V 0 (U 59) := hw.key (gx_u_ne (by decide)) rfl rfl rfl
      obtain ⟨I', V', J', U', n', e1, e2, e3, e4, e5, e6⟩ := mb_line_L hi hr6 (fun I V => some (.inl (I 44 12), I, V)) (fun J U => some (J 58 17, J, U)) 7 0 0 992 992 _ _ _ _ rfl (by decide) hlw hw1 rfl
      have e1' : f_X6_line_L1 (Int32.ofNat r) (fun _ I V => some (.inl (I 44 12), I, V)) 1000 0 (gx_u I 44 12 0) V = _ := e1
      have e2' : f_X7_line_L4 (Int32.ofNat r) (fun _ J U => some (J 58 17, J, U)) 1000 (7 * Int32.ofNat r) (gx_u (gx_u J 58 9 0) 58 17 0) U = some (J' 58 17, J', U') := by
        rw [show (7 : Int32) * Int32.ofNat r = Int32.ofNat (7 * r + 0) by rw [show (7 : Int32) = Int32.ofNat 7 from rfl, ← Int32.ofNat_mul]; rfl]
        exact e2
      rw [e1', e2']
      simp only [Option.bind_some]
      have js : ∀ s, s ≠ 9 → s ≠ 17 → J' 58 s = J 58 s := fun s s1 s2 => by
        rw [e6.1 s s2, mb_set_u, mb_set0 _ _ s2, mb_set_u, mb_set0 _ _ s1]
      have fI : ∀ k, k ≠ 44 → I' k = I k := fun k hk => (e5.1 k hk).trans (gx_u_ne hk)
      have fI44 : ∀ s, s ≠ 12 → I' 44 s = I 44 s := fun s hs => (e5.2.1 s hs).trans (by rw [mb_set_u, mb_set0 _ _ hs])
      have e59 : U' 59 = U 59 := e6.2 59 (by decide)
      refine ⟨0, I', V', (I' 44 12).toInt64, J' 58 17, J', U', rfl, rfl, ?_, fun _ => by rw [e4.1, e4.2.1], ?_⟩
      · rw [e6.1 9 (by decide)]
        rfl
      · refine ⟨?_, ?_, hs.key (fun k k1 k2 => ⟨fI k (by omega), e5.2.2 k (by omega)⟩) (fI 46 (by decide)) (js 6 (by decide) (by decide)) (e6.2 60 (by decide)), ?_, ?_, ?_, ⟨n', e3, e4⟩, (js 7 (by decide) (by decide)).trans h7⟩
        · rw [e59]
          exact e5.wr hw1
        · rw [e59]
          exact hi
        · unfold mb_sv
          rw [fI44 3 (by decide), js 5 (by decide) (by decide), e6.2 61 (by decide)]
          rcases sv with h | ⟨a, b, c, d⟩
          · exact Or.inl h
          · exact Or.inr ⟨a, b, c.key (fI 8 (by decide)) (e5.2.2 9 (by decide)) (e5.2.2 10 (by decide)) (e5.2.2 11 (by decide)), d⟩
        · unfold mb_rs
          rw [fI 53 (by decide), fI44 8 (by decide), fI44 10 (by decide), js 10 (by decide) (by decide), js 11 (by decide) (by decide), js 12 (by decide) (by decide), js 15 (by decide) (by decide)]
          exact rs
        · unfold mb_tx
          rw [fI 54 (by decide), e5.2.2 55 (by decide), js 14 (by decide) (by decide), e6.2 64 (by decide)]
          exact tx
