/-! undo, save, restore, accounts, both sides -/
theorem mb_c34 {I V J U : gx_F} (h : mb_R I V J U) (o : Int64) : mb_AN (f_L_undo I V o) (f_X7_undo J U) := by
  have h0 := h
  obtain ⟨hw, hi, ⟨n, nx, h1, h2, h3, h4, h5, h6⟩, sv, rs, tx, ln, h7⟩ := h
  rw [f_L_undo, f_X6_undo, f_X7_undo, mb_fails0, mb_fails1, h3, h5]
  simp only [Option.bind_some]
  by_cases hz : n = 0
  · subst hz
    exact mb_ANs h0 rfl rfl (fun h => absurd h (by decide))
  · have hn0 : ¬ Int32.ofNat n = 0 := fun h => hz ((mb_eq0 (by omega)).mp h)
    have js : ∀ s, s ≠ 9 → s ≠ 6 → (gx_u (gx_u J 58 9 0) 58 6 (Int32.ofNat (n - 1))) 58 s = J 58 s := fun s s1 s2 => by
      rw [mb_set_u, mb_set0 _ _ s2, mb_set_u, mb_set0 _ _ s1]
    have eI : gx_u (gx_u I 46 1 (gx_rem ((I 46 1) + 8 - 1) 8)) 46 2 ((gx_u I 46 1 (gx_rem ((I 46 1) + 8 - 1) 8)) 46 2 - 1) = gx_u (gx_u I 46 1 (Int32.ofNat ((nx + 7) % 8))) 46 2 (Int32.ofNat (n - 1)) := by
      have e1 : (gx_u I 46 1 (gx_rem ((I 46 1) + 8 - 1) 8)) 46 2 = I 46 2 := rfl
      rw [e1, h4, h3, (mb_rem8 nx h2).2, mb_sub1 (by omega)]
    have wold := h6 (n - 1) (by omega)
    have hslot : (nx + 8 - n + (n - 1)) % 8 = (nx + 7) % 8 := by omega
    rw [hslot] at wold
    have wold2 : mb_wr (gx_u (gx_u I 46 1 (Int32.ofNat ((nx + 7) % 8))) 46 2 (Int32.ofNat (n - 1))) V (12 + 4 * ((nx + 7) % 8)) (mb_row U 60 (87 * (n - 1))) := by
      refine wold.1.key ?_ rfl rfl rfl
      rw [gx_u_ne (by omega), gx_u_ne (by omega)]
    obtain ⟨I1, V1, e1, w1, f1, f2⟩ := mb_copyFrom (k0 := 0) (k1 := 12 + 4 * ((nx + 7) % 8)) (by decide) (by omega) (by omega) wold2
    obtain ⟨U1, m1, a1, a2, a3⟩ := mb_copies (k0 := 60) (k2 := 59) (by decide) (a := 87 * (n - 1)) (b := 0) (by show 87 * (n - 1) + 87 ≤ 696; omega) (by decide) (by omega) (by decide) (gx_u (gx_u J 58 9 0) 58 6 (Int32.ofNat (n - 1))) U
    have hrow : ∀ j, j < 87 → U1 59 j = mb_row U 60 (87 * (n - 1)) j := by
      intro j hj
      have x := a1 j hj
      rw [Nat.zero_add] at x
      exact x
    have fI : ∀ k, k ≠ 0 → k ≠ 46 → I1 k = I k := fun k k1 k2 => (f1 k k1).trans ((gx_u_ne k2).trans (gx_u_ne k2))
    have e46 : I1 46 = (gx_u (gx_u I 46 1 (Int32.ofNat ((nx + 7) % 8))) 46 2 (Int32.ofNat (n - 1))) 46 := f1 46 (by decide)
    have p5 : f_X2_popInto 0 I V = some (I1, V1) := by
      rw [f_X2_popInto, h3, if_neg (fun h => hz ((mb_le0 (by omega)).mp h)), show gx_u (gx_u I 46 1 (gx_rem ((I 46 1) + 8 - 1) 8)) 46 2 ((gx_u I 46 1 (gx_rem ((I 46 1) + 8 - 1) 8)) 46 2 - 1) = _ from eI]
      rw [show (gx_u (gx_u I 46 1 (Int32.ofNat ((nx + 7) % 8))) 46 2 (Int32.ofNat (n - 1))) 46 1 = Int32.ofNat ((nx + 7) % 8) from rfl, mb_ck (mb_in (by omega) (by omega)), mb_tn (by omega), e1, Option.bind_some]
    have m5 : f_X7_copies 60 (87 * ((gx_u (gx_u J 58 9 0) 58 6 (((gx_u J 58 9 0) 58 6) - 1)) 58 6)) 59 0 (gx_u (gx_u J 58 9 0) 58 6 (((gx_u J 58 9 0) 58 6) - 1)) U = some (gx_u (gx_u J 58 9 0) 58 6 (Int32.ofNat (n - 1)), U1) := by
      have x : (gx_u J 58 9 0) 58 6 - 1 = Int32.ofNat (n - 1) := by
        show J 58 6 - 1 = _
        rw [h5, mb_sub1 (by omega)]
      rw [x, show (87 : Int32) * ((gx_u (gx_u J 58 9 0) 58 6 (Int32.ofNat (n - 1))) 58 6) = Int32.ofNat (87 * (n - 1)) by
        show (87 : Int32) * Int32.ofNat (n - 1) = _
        rw [show (87 : Int32) = Int32.ofNat 87 from rfl, ← Int32.ofNat_mul]]
      exact m1
    rw [if_neg hn0, p5, if_neg hn0, if_pos gx_bi_0, m5]
    simp only [Option.bind_some]
    refine ⟨0, I1, V1, (Int32.ofNat (n - 1)).toInt64, Int32.ofNat (n - 1), gx_u (gx_u J 58 9 0) 58 6 (Int32.ofNat (n - 1)), U1, ?_, rfl, rfl, fun _ => rfl, ?_⟩
    · show some (0, I1, V1, (I1 46 2).toInt64) = _
      rw [e46]
      rfl
    · refine h0.build (w1.ext hrow) (wold.2.ext hrow) ⟨n - 1, (nx + 7) % 8, by omega, by omega, ?_, ?_, rfl, fun i hi2 => ?_⟩ (fun s _ => by rw [fI 44 (by decide) (by decide)]) (fun k k1 k2 => ⟨fI k (by omega) (by omega), f2 k (by omega) (by omega) (by omega)⟩) (by rw [fI 54 (by decide) (by decide)]) (f2 45 (by decide) (by decide) (by decide)) (f2 55 (by decide) (by decide) (by decide)) ⟨fun s _ => js s (by omega) (by omega), a3 61 (by decide), a3 64 (by decide), a3 65 (by decide)⟩ ?_ ((js 7 (by decide) (by decide)).trans h7)
      · rw [e46]
        rfl
      · rw [e46]
        rfl
      · have hr : mb_row U1 60 (87 * i) = mb_row U 60 (87 * i) := by
          unfold mb_row
          rw [a3 60 (by decide)]
        have y := h6 i (by omega)
        rw [hr, show ((nx + 7) % 8 + 8 - (n - 1) + i) % 8 = (nx + 8 - n + i) % 8 by omega]
        exact ⟨y.1.key (fI _ (by omega) (by omega)) (f2 _ (by omega) (by omega) (by omega)) (f2 _ (by omega) (by omega) (by omega)) (f2 _ (by omega) (by omega) (by omega)), y.2⟩
      · unfold mb_rs
        rw [fI 53 (by decide) (by decide), fI 44 (by decide) (by decide), js 10 (by decide) (by decide), js 11 (by decide) (by decide), js 12 (by decide) (by decide), js 15 (by decide) (by decide)]
        exact rs
theorem mb_c35 {I V J U : gx_F} (h : mb_R I V J U) : mb_EQ (f_X6_save I V) (f_X7_save J U) := by
  have h0 := h
  obtain ⟨hw, hi, hs, sv, rs, tx, ln, h7⟩ := h
  obtain ⟨I1, V1, e1, w8, f1, f2⟩ := mb_copyFrom (I := I) (V := V) (k0 := 8) (k1 := 0) (by decide) (by decide) (by decide) hw
  obtain ⟨U1, m1, a1, a2, a3⟩ := mb_copies (k0 := 59) (k2 := 61) (by decide) (a := 0) (b := 0) (by decide) (by decide) (by decide) (by decide) (gx_u (gx_u J 58 9 0) 58 5 1) U
  have m1' : f_X7_copies 59 0 61 0 (gx_u (gx_u J 58 9 0) 58 5 1) U = some (gx_u (gx_u J 58 9 0) 58 5 1, U1) := m1
  have hrow : ∀ j, j < 87 → U1 61 j = U 59 j := by
    intro j hj
    have x := a1 j hj
    rw [Nat.zero_add] at x
    exact x
  have fI : ∀ k, k ≠ 8 → k ≠ 44 → (gx_u I1 44 3 1) k = I k := fun k k1 k2 => (gx_u_ne k2).trans (f1 k k1)
  have fI44 : ∀ s, s ≠ 3 → (gx_u I1 44 3 1) 44 s = I 44 s := fun s hs => by rw [mb_set_u, mb_set0 _ _ hs, f1 44 (by decide)]
  have js : ∀ s, s ≠ 9 → s ≠ 5 → (gx_u (gx_u J 58 9 0) 58 5 1) 58 s = J 58 s := fun s s1 s2 => by
    rw [mb_set_u, mb_set0 _ _ s2, mb_set_u, mb_set0 _ _ s1]
  have hw1 : mb_wr (gx_u I1 44 3 1) V1 0 (U 59) := hw.key (fI 0 (by decide) (by decide)) (f2 1 (by decide) (by decide) (by decide)) (f2 2 (by decide) (by decide) (by decide)) (f2 3 (by decide) (by decide) (by decide))
  have u59 : U1 59 = U 59 := a3 59 (by decide)
  refine ⟨mb_bricks (U 59), gx_u I1 44 3 1, V1, gx_u (gx_u J 58 9 0) 58 5 1, U1, ?_, ?_, ?_⟩
  · rw [f_X6_save, e1, Option.bind_some]
    show (f_X5_brickCount 0 (gx_u I1 44 3 1) V1).bind _ = _
    rw [mb_brickCount hw1 hi, Option.bind_some]
  · rw [f_X7_save, m1', Option.bind_some]
    show (f_X7_bricks (gx_u (gx_u J 58 9 0) 58 5 1) U1).bind _ = _
    rw [mb_bricks7, Option.bind_some, u59]
  · refine ⟨?_, ?_, hs.key (fun k k1 k2 => ⟨fI k (by omega) (by omega), f2 k (by omega) (by omega) (by omega)⟩) (fI 46 (by decide) (by decide)) (js 6 (by decide) (by decide)) (a3 60 (by decide)), Or.inr ⟨rfl, rfl, ?_, hi.ext hrow⟩, ?_, ?_, ?_, (js 7 (by decide) (by decide)).trans h7⟩
    · rw [u59]
      exact hw1
    · rw [u59]
      exact hi
    · exact (w8.ext hrow).key (gx_u_ne (by decide)) rfl rfl rfl
    · unfold mb_rs
      rw [fI 53 (by decide) (by decide), fI44 8 (by decide), fI44 10 (by decide), js 10 (by decide) (by decide), js 11 (by decide) (by decide), js 12 (by decide) (by decide), js 15 (by decide) (by decide)]
      exact rs
    · unfold mb_tx
      rw [fI 54 (by decide) (by decide), f2 55 (by decide) (by decide) (by decide), js 14 (by decide) (by decide), a3 64 (by decide)]
      exact tx
    · unfold mb_ln
      rw [fI44 12 (by decide), f2 45 (by decide) (by decide) (by decide), js 17 (by decide) (by decide), a3 65 (by decide)]
      exact ln
theorem mb_c36 {I V J U : gx_F} (h : mb_R I V J U) (o : Int64) : mb_AN (f_L_restore I V o) (f_X7_restore J U) := by
  have h0 := h
  obtain ⟨hw, hi, ⟨n, nx, h1, h2, h3, h4, h5, h6⟩, sv, rs, tx, ln, h7⟩ := h
  rw [f_L_restore, f_X6_restore, f_X7_restore, mb_fails0, mb_fails1]
  rcases sv with ⟨s1, s2⟩ | ⟨s1, s2, s3, s4⟩
  · rw [s1, s2]
    exact mb_ANs h0 rfl rfl (fun h => absurd h (by decide))
  · obtain ⟨I1, V1, e1, w0, f1, f2⟩ := mb_copyFrom (I := I) (V := V) (k0 := 0) (k1 := 8) (by decide) (by decide) (by decide) s3
    obtain ⟨U1, m1, a1, a2, a3⟩ := mb_copies (k0 := 61) (k2 := 59) (by decide) (a := 0) (b := 0) (by decide) (by decide) (by decide) (by decide) (gx_u J 58 9 0) U
    have m1' : f_X7_copies 61 0 59 0 (gx_u J 58 9 0) U = some (gx_u J 58 9 0, U1) := m1
    have hrow : ∀ j, j < 87 → U1 59 j = U 61 j := by
      intro j hj
      have x := a1 j hj
      rw [Nat.zero_add] at x
      exact x
    have fI : ∀ k, k ≠ 0 → k ≠ 46 → (gx_u I1 46 2 0) k = I k := fun k k1 k2 => (gx_u_ne k2).trans (f1 k k1)
    have js : ∀ s, s ≠ 9 → s ≠ 6 → (gx_u (gx_u J 58 9 0) 58 6 0) 58 s = J 58 s := fun s s1 s2 => by
      rw [mb_set_u, mb_set0 _ _ s2, mb_set_u, mb_set0 _ _ s1]
    have w01 : mb_wr (gx_u I1 46 2 0) V1 0 (U1 59) := (w0.ext hrow).key (gx_u_ne (by decide)) rfl rfl rfl
    have i01 : mb_iv (U1 59) := s4.ext hrow
    have b5 : f_X5_brickCount 0 (gx_u I1 46 2 0) V1 = some (mb_bricks (U1 59)) := mb_brickCount w01 i01
    have b7 : f_X7_bricks (gx_u (gx_u J 58 9 0) 58 6 0) U1 = some (mb_bricks (U1 59)) := mb_bricks7
    rw [s1, s2, if_neg (by decide), if_neg (by decide), e1]
    simp only [Option.bind_some]
    rw [f_X2_forget]
    simp only [Option.bind_some]
    rw [b5, if_pos gx_bi_0, m1']
    simp only [Option.bind_some]
    rw [b7]
    simp only [Option.bind_some]
    refine ⟨0, gx_u I1 46 2 0, V1, (mb_bricks (U1 59)).toInt64, mb_bricks (U1 59), gx_u (gx_u J 58 9 0) 58 6 0, U1, rfl, rfl, rfl, fun _ => rfl, ?_⟩
    refine h0.build w01 i01 ⟨0, nx, by omega, h2, rfl, ?_, rfl, fun i hi2 => by omega⟩ (fun s _ => by rw [fI 44 (by decide) (by decide)]) (fun k k1 k2 => ⟨fI k (by omega) (by omega), f2 k (by omega) (by omega) (by omega)⟩) (by rw [fI 54 (by decide) (by decide)]) (f2 45 (by decide) (by decide) (by decide)) (f2 55 (by decide) (by decide) (by decide)) ⟨fun s _ => js s (by omega) (by omega), a3 61 (by decide), a3 64 (by decide), a3 65 (by decide)⟩ ?_ ((js 7 (by decide) (by decide)).trans h7)
    · rw [mb_set_u, mb_set0 _ _ (by decide), f1 46 (by decide)]
      exact h4
    · unfold mb_rs
      rw [fI 53 (by decide) (by decide), fI 44 (by decide) (by decide), js 10 (by decide) (by decide), js 11 (by decide) (by decide), js 12 (by decide) (by decide), js 15 (by decide) (by decide)]
      exact rs
theorem mb_c33 {I V J U : gx_F} (h : mb_R I V J U) (a : Int32) (o : Int64) : mb_AN (f_L_account a I V o) (f_X7_account a J U) := by
  have h0 := h
  obtain ⟨hw, hi, ⟨n, nx, h1, h2, h3, h4, h5, h6⟩, sv, rs, ⟨tn, t1, t2, t3, t4⟩, ln, h7⟩ := h
  obtain ⟨w1, w2, w3, w4, w5, w6, w7, w8, w9⟩ := hw
  have hw : mb_wr I V 0 (U 59) := h0.1
  rw [f_L_account, f_X6_account, f_X7_account, mb_in7b, mb_fails0, mb_fails1, mb_brickCount hw hi, mb_allH5 hw hi (mb_woN (U 59)), mb_pairs5 hw hi]
  simp only [Option.bind_some]
  have b7 : f_X7_bricks (gx_u J 58 9 0) U = some (mb_bricks (U 59)) := mb_bricks7
  have a7 : f_X7_allHolds (gx_u J 58 9 0) U = some (Int32.ofNat (mb_all (U 59))) := mb_allH7 hi
  have p7 : f_X7_pairs (gx_u J 58 9 0) U = some (Int32.ofNat (mb_prs (U 59))) := mb_pairs7
  rw [b7, a7, p7]
  simp only [Option.bind_some]
  cases hb : mb_b a 0 9 with
  | false =>
    have hne : ∀ p, p ≤ 9 → ¬ a = Int32.ofNat p := by
      intro p hp e
      rw [e, show (9 : Int32) = Int32.ofNat 9 from rfl, mb_b2 (by decide) hp] at hb
      cases hb
    have q0 : ¬ a = 0 := hne 0 (by decide)
    have q1 : ¬ a = 1 := hne 1 (by decide)
    have q2 : ¬ a = 2 := hne 2 (by decide)
    have q3 : ¬ a = 3 := hne 3 (by decide)
    have q4 : ¬ a = 4 := hne 4 (by decide)
    have q5 : ¬ a = 5 := hne 5 (by decide)
    have q6 : ¬ a = 6 := hne 6 (by decide)
    have q7 : ¬ a = 7 := hne 7 (by decide)
    have q8 : ¬ a = 8 := hne 8 (by decide)
    have q9 : ¬ a = 9 := hne 9 (by decide)
    rw [if_neg q0, if_neg q1, if_neg q2, if_neg q3, if_neg q4, if_neg q5, if_neg q6, if_neg q7, if_neg q8, if_neg q9]
    exact mb_ANs h0 rfl rfl (fun h => absurd h (by decide))
  | true =>
    obtain ⟨p, hp, rfl⟩ := mb_b1 (n := 9) (by decide) hb
    rw [if_neg mb_bt1', if_pos gx_bi_0]
    have hc : p = 0 ∨ p = 1 ∨ p = 2 ∨ p = 3 ∨ p = 4 ∨ p = 5 ∨ p = 6 ∨ p = 7 ∨ p = 8 ∨ p = 9 := by omega
    rcases hc with rfl | rfl | rfl | rfl | rfl | rfl | rfl | rfl | rfl | rfl
    · rw [w4]
      exact mb_ANs h0 rfl rfl (fun _ => rfl)
    · exact mb_ANs h0 rfl rfl (fun _ => rfl)
    · rw [w5]
      exact mb_ANs h0 rfl rfl (fun _ => rfl)
    · rw [w7]
      exact mb_ANs h0 rfl rfl (fun _ => rfl)
    · rw [w8]
      exact mb_ANs h0 rfl rfl (fun _ => rfl)
    · rw [w9]
      exact mb_ANs h0 rfl rfl (fun _ => rfl)
    · exact mb_ANs h0 rfl rfl (fun _ => rfl)
    · exact mb_ANs h0 rfl rfl (fun _ => rfl)
    · have e : I 46 2 = (gx_u J 58 9 0) 58 6 := h3.trans h5.symm
      rw [e]
      exact mb_ANs h0 rfl rfl (fun _ => rfl)
    · have e : I 54 4 = (gx_u J 58 9 0) 58 14 := t2.trans t3.symm
      rw [e]
      exact mb_ANs h0 rfl rfl (fun _ => rfl)
