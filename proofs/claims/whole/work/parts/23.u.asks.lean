/-! questions of a wall, both sides -/
theorem mb_hs.sc {I V J U I' V' J' U' : gx_F} (h : mb_hs I V J U) (sc : mb_sc I V I' V') (e6 : J' 58 6 = J 58 6) (e60 : U' 60 = U 60) : mb_hs I' V' J' U' :=
  h.key (fun k k1 k2 => ⟨sc.1 k (by omega) (by omega), sc.2 k (by omega) (by omega) (by omega)⟩) (sc.1 46 (by omega) (by omega)) e6 e60
theorem mb_R.sc {I V J U I' V' U' : gx_F} (h : mb_R I V J U) (sc : mb_sc I V I' V') (fu : ∀ k, k ≠ 66 → U' k = U k) (t : Int32) : mb_R I' V' (gx_u J 58 9 t) U' := by
  have h0 := h
  obtain ⟨hw, hi, hs, sv, rs, tx, ln, h7⟩ := h
  have e59 := fu 59 (by decide)
  have js : ∀ s, s ≠ 9 → (gx_u J 58 9 t) 58 s = J 58 s := fun s hs => by rw [mb_set_u, mb_set0 _ _ hs]
  refine h0.build ?_ ?_ (hs.sc sc (js 6 (by decide)) (fu 60 (by decide))) (fun s _ => by rw [sc.1 44 (by decide) (by decide)]) (fun k k1 k2 => ⟨sc.1 k (by omega) (by omega), sc.2 k (by omega) (by omega) (by omega)⟩) (by rw [sc.1 54 (by decide) (by decide)]) (sc.2 45 (by decide) (by decide) (by decide)) (sc.2 55 (by decide) (by decide) (by decide)) ⟨fun s _ => js s (by omega), fu 61 (by decide), fu 64 (by decide), fu 65 (by decide)⟩ ?_ ((js 7 (by decide)).trans h7)
  · rw [e59]
    exact sc.wr (by decide) hw
  · rw [e59]
    exact hi
  · unfold mb_rs
    rw [sc.1 53 (by decide) (by decide), sc.1 44 (by decide) (by decide), js 10 (by decide), js 11 (by decide), js 12 (by decide), js 15 (by decide)]
    exact rs
theorem mb_ANq {I V J U I' V' U' : gx_F} {x : mb_XL} {y : mb_X} {t a : Int32} {o' : Int64} (h : mb_R I V J U) (sc : mb_sc I V I' V') (fu : ∀ k, k ≠ 66 → U' k = U k) (hx : x = some (t, I', V', o')) (hy : y = some (a, gx_u J 58 9 t, U')) (ho : t = 0 → o' = a.toInt64) : mb_AN x y :=
  ⟨t, I', V', o', a, gx_u J 58 9 t, U', hx, hy, rfl, ho, h.sc sc fu t⟩
/-- nothing has changed but the code -/
theorem mb_ANs {I V J U : gx_F} {x : mb_XL} {y : mb_X} {t a : Int32} {o' : Int64} (h : mb_R I V J U) (hx : x = some (t, I, V, o')) (hy : y = some (a, gx_u J 58 9 t, U)) (ho : t = 0 → o' = a.toInt64) : mb_AN x y :=
  mb_ANq h (mb_sc.refl I V) (fun _ _ => rfl) hx hy ho
theorem mb_fails0 (J U : gx_F) : f_X7_fails 0 J U = some (false, gx_u J 58 9 0, U) := by rw [f_X7_fails, if_pos (by decide)]
theorem mb_fails1 (J U : gx_F) : f_X7_fails 1 J U = some (true, gx_u J 58 9 1, U) := by rw [f_X7_fails, if_neg (by decide)]
theorem mb_fails2 (J U : gx_F) : f_X7_fails 2 J U = some (true, gx_u J 58 9 2, U) := by rw [f_X7_fails, if_neg (by decide)]
theorem mb_fails3 (J U : gx_F) : f_X7_fails 3 J U = some (true, gx_u J 58 9 3, U) := by rw [f_X7_fails, if_neg (by decide)]
theorem mb_b41 {p : Nat} (hp : p < 42) : mb_b (Int32.ofNat p) 0 41 = true := mb_b2 (n := 41) (by decide) (by omega)
theorem mb_no1 {a : Int32} (J U : gx_F) (h : mb_b a 0 41 = false) : f_X7_isNoBrick a J U = some (true, gx_u J 58 9 1, U) := by
  rw [f_X7_isNoBrick, mb_isPlace7, Option.bind_some, h, if_pos gx_bi_0, mb_fails1, Option.bind_some]
theorem mb_no2 {p : Nat} (hp : p < 42) (J U : gx_F) (h : mb_fr (U 59) p = true) : f_X7_isNoBrick (Int32.ofNat p) J U = some (true, gx_u J 58 9 2, U) := by
  have hf : f_X7_isFree (Int32.ofNat p) J U = some (mb_fr (U 59) p) := mb_isFree7 hp
  rw [f_X7_isNoBrick, mb_isPlace7, Option.bind_some, mb_b41 hp, if_neg mb_bt1', hf, Option.bind_some, h, if_neg mb_bt1', mb_fails2, Option.bind_some]
theorem mb_no3 {p : Nat} (hp : p < 42) (J U : gx_F) (h : mb_fr (U 59) p = false) : f_X7_isNoBrick (Int32.ofNat p) J U = some (false, gx_u J 58 9 0, U) := by
  have hf : f_X7_isFree (Int32.ofNat p) J U = some (mb_fr (U 59) p) := mb_isFree7 hp
  rw [f_X7_isNoBrick, mb_isPlace7, Option.bind_some, mb_b41 hp, if_neg mb_bt1', hf, Option.bind_some, h, if_pos gx_bi_0, mb_fails0, Option.bind_some]
/-- a place, or none; a brick there, or none -/
theorem mb_at (g : Nat → Int32) (hi : mb_iv g) (a : Int32) : mb_b a 0 41 = false ∨ (∃ p, p < 42 ∧ a = Int32.ofNat p ∧ g (45 + p) = -1) ∨ ∃ p b, p < 42 ∧ a = Int32.ofNat p ∧ b < 32 ∧ g (45 + p) = Int32.ofNat b := by
  cases h : mb_b a 0 41 with
  | false => exact Or.inl rfl
  | true =>
    obtain ⟨p, hp, rfl⟩ := mb_b1 (n := 41) (by decide) h
    rcases hi.br (p := p) (by omega) with h2 | ⟨b, hb, h2⟩
    · exact Or.inr (Or.inl ⟨p, by omega, rfl, h2⟩)
    · exact Or.inr (Or.inr ⟨p, b, by omega, rfl, hb, h2⟩)
theorem mb_c6 {I V J U : gx_F} (h : mb_R I V J U) (a b c : Int32) (o : Int64) : mb_AN (f_L_glueOf a b c I V o) (f_X7_glueOf a b c J U) := by
  have h0 := h
  obtain ⟨hw, hi, -⟩ := h
  rw [f_L_glueOf, f_X6_glueOf, f_X7_glueOf, mb_hasKind hw, mb_isKind rfl hi, mb_isTurn6, mb_isTurn6, mb_in7b, mb_in7b, mb_fails1, mb_fails2, mb_fails0]
  simp only [Option.bind_some]
  cases ha : mb_kb (U 59) a with
  | false => exact mb_ANs h0 rfl rfl (fun h => absurd h (by decide))
  | true =>
    rw [if_neg mb_bt1', if_neg mb_bt1']
    cases hb : mb_b b 0 3 with
    | false => exact mb_ANs h0 rfl rfl (fun h => absurd h (by decide))
    | true =>
      rw [if_neg mb_bt1', if_neg mb_bt1']
      cases hc : mb_b c 0 3 with
      | false => exact mb_ANs h0 rfl rfl (fun h => absurd h (by decide))
      | true =>
        obtain ⟨n, hn, rfl⟩ := mb_kb1 hi ha
        obtain ⟨t, ht, rfl⟩ := mb_b1 (n := 3) (by decide) hb
        obtain ⟨s, hs, rfl⟩ := mb_b1 (n := 3) (by decide) hc
        have k1 := hi.kc.1
        rw [if_neg mb_bt1', if_neg mb_bt1', if_pos gx_bi_0, f_X6_brickOf, (mb_brk_of n t).1, (mb_brk_of n t).2, mb_glue7 (by omega) (by omega), Option.bind_some, mb_glueOn hw (by omega) (by omega)]
        exact mb_ANs h0 rfl rfl (fun _ => rfl)
theorem mb_c7 {I V J U : gx_F} (h : mb_R I V J U) (a : Int32) (o : Int64) : mb_AN (f_L_strengthOf a I V o) (f_X7_strengthOf a J U) := by
  have h0 := h
  obtain ⟨hw, hi, -⟩ := h
  rw [f_L_strengthOf, f_X6_strengthOf, f_X7_strengthOf, mb_in7b, mb_fails1, mb_fails0]
  simp only [Option.bind_some]
  cases hb : mb_b a 0 6 with
  | false =>
    have hb2 := hb
    unfold mb_b at hb2
    by_cases h1 : a < 0
    · rw [if_pos h1]
      exact mb_ANs h0 rfl rfl (fun h => absurd h (by decide))
    · rw [if_neg h1] at hb2 ⊢
      by_cases h2 : 6 < a
      · rw [if_neg (Int32.not_le.mpr h2)]
        exact mb_ANs h0 rfl rfl (fun h => absurd h (by decide))
      · rw [if_neg h2] at hb2
        cases hb2
  | true =>
    obtain ⟨n, hn, rfl⟩ := mb_b1 (n := 6) (by decide) hb
    obtain ⟨q1, q2, q3⟩ := mb_in7 n (by omega)
    rw [if_neg (mb_pos (by omega)), if_pos (show Int32.ofNat n ≤ 6 from (mb_le (b := 6) (by omega) (by decide)).mpr hn), mb_ck q1, mb_tn (show n < 2 ^ 31 by omega), show V (0 + 2) n = U 59 (6 + n) from hw.2.1 n (by omega), if_neg mb_bt1', if_pos gx_bi_0, mb_ck q2, q3]
    exact mb_ANs h0 rfl rfl (fun _ => rfl)
theorem mb_c8 {I V J U : gx_F} (h : mb_R I V J U) (a : Int32) {z : Int32} (hz : z = 0 ∨ z = 1) (o : Int64) : mb_AN (f_L_brickAt a z I V o) (f_X7_brickAt a z J U) := by
  have h0 := h
  obtain ⟨hw, hi, -⟩ := h
  rw [f_L_brickAt, f_X6_brickAt, f_X7_brickAt, mb_isPlace6]
  simp only [Option.bind_some]
  rcases mb_at _ hi a with ha | ⟨p, hp, rfl, hg⟩ | ⟨p, b, hp, rfl, hb, hg⟩
  · rw [ha, mb_no1 J U ha]
    exact mb_ANs h0 rfl rfl (fun h => absurd h (by decide))
  · rw [mb_b41 hp, if_neg mb_bt1', mb_brickOn hw hp, hg, mb_no2 hp J U (mb_free1 hg)]
    exact mb_ANs h0 rfl rfl (fun h => absurd h (by decide))
  · obtain ⟨-, -, -, -, h5, -⟩ := mb_small p (by omega)
    rw [mb_b41 hp, if_neg mb_bt1', mb_brickOn hw hp, hg, mb_no3 hp J U (mb_free0 (by omega) hg)]
    simp only [Option.bind_some]
    rw [if_neg (mb_nn (by omega)), if_pos gx_bi_0, mb_ck (mb_in42 p hp).2, mb_ck (mb_in42 p hp).2, h5, hg]
    rcases hz with rfl | rfl
    · exact mb_ANs h0 rfl rfl (fun _ => rfl)
    · exact mb_ANs h0 rfl rfl (fun _ => rfl)
theorem mb_c9 {I V J U : gx_F} (h : mb_R I V J U) (o : Int64) : mb_AN (f_L_seed I V o) (f_X7_seed J U) := by
  have h0 := h
  obtain ⟨hw, hi, -⟩ := h
  rw [f_L_seed, f_X6_seed, f_X7_seed, mb_fails0, mb_fails1, mb_ck (show gx_in 1 87 = true by decide), show (1 : Int32).toNatClampNeg = 1 from rfl, hw.2.2.2.2.2.1]
  simp only [Option.bind_some]
  rcases hi.seed with hs | ⟨z, hz, hs⟩
  · rw [hs]
    exact mb_ANs h0 rfl rfl (fun h => absurd h (by decide))
  · rw [hs, if_neg (mb_nn (by omega)), if_pos (mb_ge0 (by omega)), if_pos gx_bi_0, mb_ck (show gx_in 1 87 = true by decide)]
    exact mb_ANs h0 rfl rfl (fun _ => rfl)
theorem mb_c10 {I V J U : gx_F} (h : mb_R I V J U) (a : Int32) (o : Int64) : mb_AN (f_L_hold a I V o) (f_X7_hold a J U) := by
  have h0 := h
  obtain ⟨hw, hi, -⟩ := h
  rw [f_L_hold, f_X6_hold, f_X7_hold, mb_isPlace6]
  simp only [Option.bind_some]
  rcases mb_at _ hi a with ha | ⟨p, hp, rfl, hg⟩ | ⟨p, b, hp, rfl, hb, hg⟩
  · rw [ha, mb_no1 J U ha]
    exact mb_ANs h0 rfl rfl (fun h => absurd h (by decide))
  · rw [mb_b41 hp, if_neg mb_bt1', mb_brickOn hw hp, hg, mb_no2 hp J U (mb_free1 hg)]
    exact mb_ANs h0 rfl rfl (fun h => absurd h (by decide))
  · obtain ⟨-, -, -, -, h5, -⟩ := mb_small p (by omega)
    rw [mb_b41 hp, if_neg mb_bt1', mb_brickOn hw hp, hg, mb_no3 hp J U (mb_free0 (by omega) hg)]
    simp only [Option.bind_some]
    rw [if_neg (mb_nn (by omega)), mb_holdFor hw hi hp hb, if_pos gx_bi_0, mb_ck (mb_in42 p hp).2, h5, hg, mb_held hi hp hb]
    exact mb_ANs h0 rfl rfl (fun _ => rfl)
theorem mb_unset (U : gx_F) (p : Nat) : ∀ k, (gx_u (gx_u U 59 (45 + p) (-1)) 59 (45 + p) (U 59 (45 + p))) k = U k := by
  intro k
  by_cases e : k = 59
  · subst e
    funext j
    rw [mb_set_u]
    by_cases h : j = 45 + p
    · rw [h, mb_set1]
    · rw [mb_set0 _ _ h, mb_set_u, mb_set0 _ _ h]
  · rw [gx_u_ne e, gx_u_ne e]
theorem mb_c11 {I V J U : gx_F} (h : mb_R I V J U) (a : Int32) (o : Int64) : mb_AN (f_L_holdAgain a I V o) (f_X7_holdAgain a J U) := by
  have h0 := h
  obtain ⟨hw, hi, -⟩ := h
  rw [f_L_holdAgain, f_X6_holdAgain, f_X7_holdAgain, mb_isPlace6]
  simp only [Option.bind_some]
  rcases mb_at _ hi a with ha | ⟨p, hp, rfl, hg⟩ | ⟨p, b, hp, rfl, hb, hg⟩
  · rw [ha, mb_no1 J U ha]
    exact mb_ANs h0 rfl rfl (fun h => absurd h (by decide))
  · rw [mb_b41 hp, if_neg mb_bt1', mb_isFree5 hw hi hp, mb_free1 hg, mb_no2 hp J U (mb_free1 hg)]
    exact mb_ANs h0 rfl rfl (fun h => absurd h (by decide))
  · obtain ⟨-, -, -, -, h5, -⟩ := mb_small p (by omega)
    have hdel : (gx_u U 59 (45 + p) (-1)) 59 = mb_del (U 59) p := mb_set_u U 59 (45 + p) (-1)
    have e7 := mb_allH7 (J := gx_u J 58 9 0) (U := gx_u U 59 (45 + p) (-1)) (by rw [hdel]; exact (mb_woD (U 59) hp).iv hi)
    rw [hdel] at e7
    rw [mb_b41 hp, if_neg mb_bt1', mb_isFree5 hw hi hp, mb_free0 (by omega) hg, mb_no3 hp J U (mb_free0 (by omega) hg)]
    simp only [Option.bind_some]
    rw [if_pos gx_bi_0, mb_allH5 hw hi (mb_woN (U 59)), mb_allH5 hw hi (mb_woD (U 59) hp), if_pos gx_bi_0, mb_allH7 hi]
    simp only [Option.bind_some, mb_ck (mb_in42 p hp).2]
    rw [h5, e7]
    simp only [Option.bind_some]
    exact mb_ANq h0 (mb_sc.refl I V) (fun k _ => mb_unset U p k) rfl rfl (fun _ => rfl)
theorem mb_c12 {I V J U : gx_F} (h : mb_R I V J U) (a b c : Int32) (o : Int64) : mb_AN (f_L_wouldHold a b c I V o) (f_X7_wouldHold a b c J U) := by
  have h0 := h
  obtain ⟨hw, hi, -⟩ := h
  rw [f_L_wouldHold, f_X6_wouldHold, f_X7_wouldHold, mb_hasKind hw, mb_isKind rfl hi, mb_isTurn6, mb_isPlace6, mb_isPlace7, mb_in7b, mb_fails1, mb_fails2, mb_fails3, mb_fails0]
  simp only [Option.bind_some]
  cases ha : mb_b a 0 41 with
  | false => exact mb_ANs h0 rfl rfl (fun h => absurd h (by decide))
  | true =>
    rw [if_neg mb_bt1', if_neg mb_bt1']
    cases hb : mb_kb (U 59) b with
    | false => exact mb_ANs h0 rfl rfl (fun h => absurd h (by decide))
    | true =>
      rw [if_neg mb_bt1', if_neg mb_bt1']
      cases hc : mb_b c 0 3 with
      | false => exact mb_ANs h0 rfl rfl (fun h => absurd h (by decide))
      | true =>
        obtain ⟨p, hp0, rfl⟩ := mb_b1 (n := 41) (by decide) ha
        obtain ⟨n, hn, rfl⟩ := mb_kb1 hi hb
        obtain ⟨t, ht, rfl⟩ := mb_b1 (n := 3) (by decide) hc
        have k1 := hi.kc.1
        have hp : p < 42 := by omega
        have hf : f_X7_isFree (Int32.ofNat p) J U = some (mb_fr (U 59) p) := mb_isFree7 hp
        rw [if_neg mb_bt1', if_neg mb_bt1', mb_isFree5 hw hi hp, hf]
        simp only [Option.bind_some]
        cases hfr : mb_fr (U 59) p with
        | false => exact mb_ANs h0 rfl rfl (fun h => absurd h (by decide))
        | true =>
          rw [if_neg mb_bt1', if_neg mb_bt1', if_pos gx_bi_0, f_X6_brickOf, (mb_brk_of n t).1, (mb_brk_of n t).2, mb_held hi hp (by omega), Option.bind_some, mb_holdFor hw hi hp (by omega)]
          exact mb_ANs h0 rfl rfl (fun _ => rfl)
theorem mb_cnt0 {g : Nat → Int32} : (if g 1 = -1 then 0 else mb_sn g) = mb_sn g ∧ ∀ p, (if g 1 = -1 then 0 else mb_si g p) = mb_si g p := by
  constructor
  · by_cases h : g 1 = -1
    · rw [if_pos h, mb_sn, mb_T_zero 42 0 (fun p _ _ => mb_siN h)]
    · rw [if_neg h]
  · intro p
    by_cases h : g 1 = -1
    · rw [if_pos h, mb_siN h]
    · rw [if_neg h]
theorem mb_count0 {I V : gx_F} {g : Nat → Int32} (hw : mb_wr I V 0 g) (hi : mb_iv g) :
    ∃ I' V', f_X0_countWithout 0 (-1) I V = some (Int32.ofNat (mb_sn g), I', V') ∧ mb_sc I V I' V' ∧ ∀ p, p < 42 → V' 49 p = Int32.ofNat (mb_si g p) := by
  obtain ⟨I', V', e, sc, hr⟩ := mb_count (by decide) hw hi (mb_woN g)
  rw [mb_cnt0.1] at e
  refine ⟨I', V', e, sc, fun p hp => ?_⟩
  rw [hr p hp, mb_cnt0.2]
theorem mb_fu9 {U U' : gx_F} (f : ∀ k, k ≠ 66 → U' k = U k) : U' 59 = U 59 := f 59 (by decide)
theorem mb_si_sn {g : Nat → Int32} {p : Nat} (hp : p < 42) (h : mb_si g p = 1) : 1 ≤ mb_sn g := by
  have hu := mb_T_upd (h := mb_si g) (p := p) (v := 0) 42 0 (Nat.zero_le _) (by omega)
  have : mb_sn g = mb_T (mb_si g) 0 42 := rfl
  omega
/-- the answer of a question that is true or false -/
def mb_ANb (x : mb_XL) (y : Option (Bool × gx_F × gx_F)) : Prop := ∃ t I' V' o' a J' U', x = some (t, I', V', o') ∧ y = some (a, J', U') ∧ J' 58 9 = t ∧ (t = 0 → o' = if a = true then 1 else 0) ∧ mb_R I' V' J' U'
theorem mb_c13 {I V J U : gx_F} (h : mb_R I V J U) (a : Int32) (o : Int64) : mb_ANb (f_L_stands a I V o) (f_X7_stands a J U) := by
  have h0 := h
  obtain ⟨hw, hi, -⟩ := h
  rw [f_L_stands, f_X6_stands, f_X7_stands, mb_isPlace6]
  simp only [Option.bind_some]
  rcases mb_at _ hi a with ha | ⟨p, hp, rfl, hg⟩ | ⟨p, b, hp, rfl, hb, hg⟩
  · rw [ha, mb_no1 J U ha]
    exact ⟨1, I, V, o, false, gx_u J 58 9 1, U, rfl, rfl, rfl, fun h => absurd h (by decide), h0.sc (mb_sc.refl I V) (fun _ _ => rfl) 1⟩
  · rw [mb_b41 hp, if_neg mb_bt1', mb_isFree5 hw hi hp, mb_free1 hg, mb_no2 hp J U (mb_free1 hg)]
    exact ⟨2, I, V, o, false, gx_u J 58 9 2, U, rfl, rfl, rfl, fun h => absurd h (by decide), h0.sc (mb_sc.refl I V) (fun _ _ => rfl) 2⟩
  · obtain ⟨I1, V1, e1, sc1, r1⟩ := mb_count0 hw hi
    obtain ⟨U1, e2, fu, r2⟩ := mb_stand7 (J := gx_u J 58 9 0) (U := U) rfl hi
    rw [mb_b41 hp, if_neg mb_bt1', mb_isFree5 hw hi hp, mb_free0 (by omega) hg, mb_no3 hp J U (mb_free0 (by omega) hg)]
    simp only [Option.bind_some]
    rw [if_pos gx_bi_0, e1, Option.bind_some, mb_isReached hp (mb_si_le (U 59) p) (r1 p hp), if_pos gx_bi_0, e2]
    simp only [Option.bind_some]
    rw [mb_ck (mb_in hp (by omega)), mb_tn (show p < 2 ^ 31 by omega), r2 p hp]
    have hmx := mb_sn_max (U 59)
    rcases mb_si_le (U 59) p with hs | hs
    · rw [hs]
      refine ⟨0, I1, V1, 0, false, gx_u J 58 9 0, U1, rfl, ?_, rfl, fun _ => rfl, h0.sc sc1 fu 0⟩
      by_cases hz : Int32.ofNat (mb_sn (U 59)) ≤ 0
      · rw [if_pos hz]
      · rw [if_neg hz]
        rfl
    · have h1 := mb_si_sn hp hs
      rw [hs, if_neg (fun h2 => absurd ((mb_le0 (by omega)).mp h2) (by omega))]
      exact ⟨0, I1, V1, 1, true, gx_u J 58 9 0, U1, rfl, rfl, rfl, fun _ => rfl, h0.sc sc1 fu 0⟩
/-- equal answers without a code -/
def mb_EQ (x y : mb_X) : Prop := ∃ a I' V' J' U', x = some (a, I', V') ∧ y = some (a, J', U') ∧ mb_R I' V' J' U'
theorem mb_c14 {I V J U : gx_F} (h : mb_R I V J U) : mb_EQ (f_X6_fallen I V) (f_X7_fallen J U) := by
  have h0 := h
  obtain ⟨hw, hi, -⟩ := h
  obtain ⟨I1, V1, e1, sc1, r1⟩ := mb_count0 hw hi
  obtain ⟨U1, e2, fu, r2⟩ := mb_stand7 (J := gx_u J 58 9 0) (U := U) rfl hi
  refine ⟨mb_bricks (U 59) - Int32.ofNat (mb_sn (U 59)), I1, V1, gx_u J 58 9 0, U1, ?_, ?_, h0.sc sc1 fu 0⟩
  · rw [f_X6_fallen, mb_brickCount hw hi, Option.bind_some, e1, Option.bind_some]
  · rw [f_X7_fallen, mb_bricks7, Option.bind_some, e2, Option.bind_some]
theorem mb_c15 {I V J U : gx_F} (h : mb_R I V J U) (a : Int32) (o : Int64) : mb_AN (f_L_falls a I V o) (f_X7_falls a J U) := by
  have h0 := h
  obtain ⟨hw, hi, -⟩ := h
  rw [f_L_falls, f_X6_falls, f_X7_falls, mb_isPlace6]
  simp only [Option.bind_some]
  rcases mb_at _ hi a with ha | ⟨p, hp, rfl, hg⟩ | ⟨p, b, hp, rfl, hb, hg⟩
  · rw [ha, mb_no1 J U ha]
    exact mb_ANs h0 rfl rfl (fun h => absurd h (by decide))
  · rw [mb_b41 hp, if_neg mb_bt1', mb_isFree5 hw hi hp, mb_free1 hg, mb_no2 hp J U (mb_free1 hg)]
    exact mb_ANs h0 rfl rfl (fun h => absurd h (by decide))
  · obtain ⟨I1, V1, e5, sc⟩ := mb_falling (by omega) hw hi hp
    obtain ⟨U2, e7, f2⟩ := mb_fallsBy (J := gx_u J 58 9 0) (U := U) rfl hi hp
    rw [mb_b41 hp, if_neg mb_bt1', mb_isFree5 hw hi hp, mb_free0 (by omega) hg, mb_no3 hp J U (mb_free0 (by omega) hg)]
    simp only [Option.bind_some]
    rw [if_pos gx_bi_0, e5, if_pos gx_bi_0, e7]
    exact mb_ANq h0 sc f2 rfl rfl (fun _ => rfl)
theorem mb_c17 {I V J U : gx_F} (h : mb_R I V J U) (a : Int32) (o : Int64) : mb_AN (f_L_errorsAt a I V o) (f_X7_errorsAt a J U) := by
  have h0 := h
  obtain ⟨hw, hi, -⟩ := h
  rw [f_L_errorsAt, f_X6_errorsAt, f_X7_errorsAt, mb_isPlace6]
  simp only [Option.bind_some]
  rcases mb_at _ hi a with ha | ⟨p, hp, rfl, hg⟩ | ⟨p, b, hp, rfl, hb, hg⟩
  · rw [ha, mb_no1 J U ha]
    exact mb_ANs h0 rfl rfl (fun h => absurd h (by decide))
  · rw [mb_b41 hp, if_neg mb_bt1', mb_isFree5 hw hi hp, mb_free1 hg, mb_no2 hp J U (mb_free1 hg)]
    exact mb_ANs h0 rfl rfl (fun h => absurd h (by decide))
  · obtain ⟨-, -, -, -, h5, -⟩ := mb_small p (by omega)
    rw [mb_b41 hp, if_neg mb_bt1', mb_isFree5 hw hi hp, mb_free0 (by omega) hg, mb_no3 hp J U (mb_free0 (by omega) hg)]
    simp only [Option.bind_some]
    rw [if_pos gx_bi_0, mb_errorsOf5 hw hi hp hb hg, if_pos gx_bi_0, mb_ck (mb_in42 p hp).2, h5, hg, mb_errorsOf7 hi hp hb]
    exact mb_ANs h0 rfl rfl (fun _ => rfl)
theorem mb_from0 (g : Nat → Int32) : mb_from g 0 := Or.inr ⟨0, by omega, rfl, fun q h => by omega⟩
theorem mb_c18 {I V J U : gx_F} (h : mb_R I V J U) (o : Int64) : mb_AN (f_L_nextPlace I V o) (f_X7_nextPlace J U) := by
  have h0 := h
  obtain ⟨hw, hi, -⟩ := h
  obtain ⟨I1, V1, sc, hr⟩ := mb_find (by decide) hw hi (mb_from0 (U 59))
  rw [f_L_nextPlace, f_X6_nextPlace, f_X7_nextPlace, mb_growsAt rfl hi, mb_fails0, mb_fails1]
  simp only [Option.bind_some]
  cases hf : mb_fi (U 59) 42 0 with
  | none =>
    rw [hf] at hr
    have e : f_X1_findFrom 0 0 I V = some (false, I1, V1) := hr
    rw [e]
    exact mb_ANq h0 sc (fun _ _ => rfl) rfl rfl (fun h => absurd h (by decide))
  | some q =>
    rw [hf] at hr
    obtain ⟨e, e1, e2⟩ : f_X1_findFrom 0 0 I V = some (true, I1, V1) ∧ I1 51 1 = Int32.ofNat q.1 ∧ I1 51 2 = Int32.ofNat q.2 := hr
    obtain ⟨f1, f2, f3, f4⟩ := mb_fi_some 42 0 q.1 q.2 hf
    rw [e, if_pos (show 0 ≤ mb_ff (some q) from mb_ge0 (by omega)), if_pos gx_bi_0]
    simp only [Option.bind_some]
    rw [if_neg mb_bt1', e1]
    exact mb_ANq h0 sc (fun _ _ => rfl) rfl rfl (fun _ => rfl)
theorem mb_c19 {I V J U : gx_F} (h : mb_R I V J U) (o : Int64) : mb_AN (f_L_nextBrick I V o) (f_X7_nextBrick J U) := by
  have h0 := h
  obtain ⟨hw, hi, -⟩ := h
  obtain ⟨I1, V1, sc, hr⟩ := mb_find (by decide) hw hi (mb_from0 (U 59))
  rw [f_L_nextBrick, f_X6_nextBrick, f_X7_nextBrick, mb_growsAt rfl hi, mb_fails0, mb_fails1]
  simp only [Option.bind_some]
  cases hf : mb_fi (U 59) 42 0 with
  | none =>
    rw [hf] at hr
    have e : f_X1_findFrom 0 0 I V = some (false, I1, V1) := hr
    rw [e]
    exact mb_ANq h0 sc (fun _ _ => rfl) rfl rfl (fun h => absurd h (by decide))
  | some q =>
    rw [hf] at hr
    obtain ⟨e, e1, e2⟩ : f_X1_findFrom 0 0 I V = some (true, I1, V1) ∧ I1 51 1 = Int32.ofNat q.1 ∧ I1 51 2 = Int32.ofNat q.2 := hr
    obtain ⟨f1, f2, f3, f4⟩ := mb_fi_some 42 0 q.1 q.2 hf
    have e7 := mb_growsWith (J := gx_u J 58 9 0) (U := U) rfl hi (p := q.1) (by omega) (mb_be_lt f3).2
    rw [f3] at e7
    rw [e, if_pos (show 0 ≤ mb_ff (some q) from mb_ge0 (by omega)), if_pos gx_bi_0, show mb_ff (some q) = Int32.ofNat q.1 from rfl, e7]
    simp only [Option.bind_some]
    rw [if_neg mb_bt1', e2]
    exact mb_ANq h0 sc (fun _ _ => rfl) rfl rfl (fun _ => rfl)
theorem mb_c20 {I V J U : gx_F} (h : mb_R I V J U) (a : Int32) (o : Int64) : mb_AN (f_L_choices a I V o) (f_X7_choices a J U) := by
  have h0 := h
  obtain ⟨hw, hi, -⟩ := h
  rw [f_L_choices, f_X6_choices, f_X7_choices, mb_isPlace6, mb_isPlace7, mb_fails0, mb_fails1, mb_fails2]
  simp only [Option.bind_some]
  rcases mb_at _ hi a with ha | ⟨p, hp, rfl, hg⟩ | ⟨p, b, hp, rfl, hb, hg⟩
  · rw [ha]
    exact mb_ANs h0 rfl rfl (fun h => absurd h (by decide))
  · have hf : f_X7_isFree (Int32.ofNat p) J U = some (mb_fr (U 59) p) := mb_isFree7 hp
    obtain ⟨V1, e1, sc1⟩ := mb_choices5 (by decide) hw hi hp
    rw [mb_b41 hp, if_neg mb_bt1', if_neg mb_bt1', mb_isFree5 hw hi hp, hf, mb_free1 hg]
    simp only [Option.bind_some]
    rw [if_neg mb_bt1', if_neg mb_bt1', e1, if_pos gx_bi_0, mb_choicesAt rfl hi hp]
    exact mb_ANq h0 sc1 (fun _ _ => rfl) rfl rfl (fun _ => rfl)
  · have hf : f_X7_isFree (Int32.ofNat p) J U = some (mb_fr (U 59) p) := mb_isFree7 hp
    rw [mb_b41 hp, if_neg mb_bt1', if_neg mb_bt1', mb_isFree5 hw hi hp, hf, mb_free0 (by omega) hg]
    exact mb_ANs h0 rfl rfl (fun h => absurd h (by decide))
theorem mb_c21 {I V J U : gx_F} (h : mb_R I V J U) : mb_EQ (f_X6_stuck I V) (f_X7_stuck J U) := by
  have h0 := h
  obtain ⟨hw, hi, -⟩ := h
  obtain ⟨V1, e1, sc1⟩ := mb_stuck5 (by decide) hw hi
  refine ⟨Int32.ofNat (mb_stks (U 59)), I, V1, gx_u J 58 9 0, U, ?_, ?_, h0.sc sc1 (fun _ _ => rfl) 0⟩
  · rw [f_X6_stuck, e1, Option.bind_some]
  · rw [f_X7_stuck, mb_stuck7 rfl hi, Option.bind_some]
